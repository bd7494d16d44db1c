/-! ahead -/
def sKey (l : Nat → Int) (c : Nat) : Int := -(l c)
def sAh (l : Nat → Int) (k : Int) : Int := (zfst (fun c => decide (sRk (sKey l) c = k)) 256 0 : Int)
theorem sAh_at {l : Nat → Int} {k : Int} {j : Nat} (hj : j < 256) (h : sRk (sKey l) j = k) : sAh l k = j := by
  have e : zfst (fun c => decide (sRk (sKey l) c = k)) 256 0 = j := zfst_at 256 0 j (by omega) (by omega) (decide_eq_true h) (fun x _ hx => by
    rw [decide_eq_true_iff]
    intro h'
    have := sRk_inj (m := sKey l) (a := x) (b := j) (by omega) hj (by omega)
    omega)
  unfold sAh
  rw [e]
theorem sRk_congr {m m' : Nat → Int} (h : ∀ c, c < 256 → m c = m' c) {c : Nat} (hc : c < 256) : sRk m c = sRk m' c := zsum_congr (fun b hb => by rw [h b hb, h c hc])
theorem sAh_congr {l l' : Nat → Int} {k : Int} (h : ∀ c, c < 256 → l c = l' c) : sAh l k = sAh l' k := by
  have e : ∀ b, b < 256 → sKey l b = sKey l' b := fun b hb => by unfold sKey; rw [h b hb]
  unfold sAh
  rw [zfst_congr 256 0 (fun c _ hc => by rw [sRk_congr e (by omega)])]
/-- so many have more -/
def zGr (l : Nat → Int) (v : Int) : Int := zsum 256 (fun b => if v < l b then 1 else 0)
theorem zGr_s {l : Nat → Int} {v : Int} : zGr l (v - 1) = zGr l v + zEqv l 256 v := by
  unfold zGr zEqv
  rw [← zsum_add]
  refine zsum_congr (fun b _ => ?_)
  by_cases h : v < l b
  · rw [if_pos (by omega), if_pos h, if_neg (by omega)]; rfl
  · by_cases h2 : l b = v
    · rw [if_pos (by omega), if_neg h, if_pos h2]; rfl
    · rw [if_neg (by omega), if_neg h, if_neg h2]; rfl
theorem zEqv_nn {l : Nat → Int} {n : Nat} {v : Int} : 0 ≤ zEqv l n v ∧ zEqv l n v ≤ n := by
  have h1 : 0 ≤ zEqv l n v := zsum_nn (fun c _ => by show 0 ≤ (if _ then (1 : Int) else 0); split <;> omega)
  have h2 : zEqv l n v ≤ (n : Int) * 1 := zsum_le (fun c _ => by show (if _ then (1 : Int) else 0) ≤ 1; split <;> omega)
  omega
theorem zGr_all {l : Nat → Int} (h : ∀ c, c < 256 → 0 ≤ l c) : zGr l (-1) = 256 := by
  unfold zGr
  rw [zsum_congr (g := fun _ => (1 : Int)) (fun c hc => if_pos (by have := h c hc; omega))]
  have : ∀ n : Nat, zsum n (fun _ => (1 : Int)) = n := by
    intro n
    induction n with
    | zero => rfl
    | succ n ih => rw [zsum_s, ih]; omega
  exact this 256
theorem sRk_key {l : Nat → Int} {j : Nat} (hj : j < 256) : sRk (sKey l) j = zGr l (l j) + zEqv l j (l j) := by
  rw [sRk_sp hj]
  unfold zLtv zGr zEqv sKey
  rw [zsum_congr (n := 256) (g := fun b => if l j < l b then (1 : Int) else 0) (fun b _ => by
    by_cases h : l j < l b
    · rw [if_pos (by omega), if_pos h]
    · rw [if_neg (by omega), if_neg h]), zsum_congr (n := j) (g := fun b => if l b = l j then (1 : Int) else 0) (fun b _ => by
    by_cases h : l b = l j
    · rw [if_pos (by omega), if_pos h]
    · rw [if_neg (by omega), if_neg h])]
theorem g4_ranked {i : Nat} {sp k : Int} {M : zM} {l : Nat → Int} (hl : ∀ c, c < 256 → 0 ≤ l c ∧ l c ≤ 99) (hof : ∀ M' : zM, M' 41 = M 41 → ∀ c : Nat, c < 256 → g_X4_of (zKn i) sp c M' = some (l c)) (hk : 0 ≤ k ∧ k < 256) : zO (g_X4_ranked (zKn i) sp k M) (fun r => r.2 = sAh l k ∧ 0 ≤ r.2 ∧ r.2 < 256 ∧ sRk (sKey l) r.2.toNat = k ∧ zFr [42] M r.1) := by
  unfold g_X4_ranked
  refine zO_b1e (zfill zl_42 (by omega)) ?_
  generalize hA : (fun a b => if a = 42 ∧ b < 100 then (0 : Int) else M a b) = A
  have fA : zFr [42] M A := by
    intro q hq
    rw [← hA]
    funext b
    have : q ≠ 42 := fun e => hq (by rw [e]; decide)
    simp [this]
  have zA : ∀ v, v < 100 → A 42 v = 0 := by
    intro v hv
    rw [← hA]
    simp [hv]
  refine zO_b1q (Q := fun M' => zFr [42] M M' ∧ ∀ v : Nat, v < 100 → M' 42 v = zEqv l 256 v) ?_ ?_
  · unfold zw2
    refine zO_for (fun s => s.1) 256 (fun j s => zFr [42] M s.2 ∧ ∀ v : Nat, v < 100 → s.2 42 v = zEqv l j v) ?_ ?_ (by omega) 0 (by omega) rfl ⟨fA, fun v hv => (zA v hv).trans rfl⟩
    · rintro j ⟨y, M'⟩ hj hc ⟨hf, hI⟩
      simp only at hc hf hI
      subst hc
      have ho := hof M' (hf 41 (by decide)) j hj
      have hlj := hl j hj
      dsimp only
      rw [gb_X4_ranked_10]
      refine zO_brn (by omega) (by omega) (by omega) (zO_b1e ho (zO_gd (by omega) (zO_gd (by omega) (zO_lt (zO_lt (zO_inl ⟨by dsimp only; omega, hf.st (by decide), ?_⟩))))))
      intro v hv
      dsimp only
      rw [zst_r, zEqv_s]
      by_cases h : v = (l j).toNat
      · rw [if_pos ⟨rfl, h⟩, if_pos (by omega), hI _ (by omega), h]
      · rw [if_neg (fun h' => h h'.2), if_neg (by omega), hI v hv]; omega
    · rintro ⟨y, M'⟩ hc hI
      simp only at hc
      subst hc
      dsimp only
      rw [gb_X4_ranked_10]
      exact zO_brp (by omega) (by omega) (by omega) (zO_inr hI)
  rintro B ⟨fB, hB⟩
  -- down the LIVE
  refine zO_b2 ?_
  refine zO_mono (Q := fun r => 0 ≤ r.1 ∧ r.1 ≤ 99 ∧ 0 ≤ r.2 ∧ r.2 = k - zGr l r.1 ∧ r.2 < zEqv l 256 r.1) ?_ ?_
  · unfold zw2
    have g99 : zGr l 99 = 0 := zsum_zero (fun c hc => if_neg (by have := hl c hc; omega))
    refine zO_wh (fun s => ∃ v : Nat, s.1 = (v : Int) ∧ v ≤ 99 ∧ 0 ≤ s.2 ∧ s.2 = k - zGr l v) (fun s => s.1.toNat + 1) ?_ zfu _ ⟨99, rfl, by omega, hk.1, by dsimp only; rw [show ((99 : Nat) : Int) = 99 from rfl, g99]; omega⟩ (by unfold zfu; show (99 : Int).toNat + 1 < _; omega)
    rintro ⟨y3, y4⟩ ⟨v, h1, h2, h3, h4⟩
    dsimp only at h1 h3 h4
    subst h1
    have hv := hB v (by omega)
    have hn := zEqv_nn (l := l) (n := 256) (v := (v : Int))
    have hs := zGr_s (l := l) (v := (v : Int))
    have hall := zGr_all (fun c hc => (hl c hc).1)
    have hg0 : 0 ≤ zGr l (v : Int) := zsum_nn (fun c _ => by show 0 ≤ (if _ then (1 : Int) else 0); split <;> omega)
    dsimp only
    rw [gb_X4_ranked_44]
    simp only [Int.toNat_natCast, hv]
    by_cases h0 : v = 0
    · subst h0
      refine zO_brp (by omega) (by omega) (by omega) (zO_inr ⟨by dsimp only; omega, by dsimp only; omega, h3, h4, ?_⟩)
      dsimp only
      rw [show ((0 : Nat) : Int) - 1 = -1 from rfl, hall] at hs
      omega
    · by_cases h5 : y4 < zEqv l 256 (v : Int)
      · exact zO_brn (by omega) (by omega) (by omega) (zO_gd (by omega) (zO_brp (by omega) (by omega) h5 (zO_inr ⟨by dsimp only; omega, by dsimp only; omega, h3, h4, h5⟩)))
      · refine zO_brn (by omega) (by omega) (by omega) (zO_gd (by omega) (zO_brn (by omega) (by omega) h5 (zO_gd (by omega) (zO_lt (zO_lt (zO_inl ⟨⟨v - 1, by dsimp only; omega, by omega, by dsimp only; omega, ?_⟩, by dsimp only; omega⟩))))))
        dsimp only
        rw [show ((v - 1 : Nat) : Int) = (v : Int) - 1 by omega, hs]
        omega
  · rintro ⟨v, p⟩ ⟨h1, h2, h3, h4, h5⟩
    dsimp only at h1 h2 h3 h4 h5
    refine zO_sp0 ?_
    unfold zw2
    dsimp only
    refine zO_for (fun s => s.2) 256 (fun j s => s.1 = p - zEqv l j v ∧ 0 ≤ s.1) ?_ ?_ (by omega) 0 (by omega) rfl (by dsimp only; exact ⟨by show p = p - 0; omega, h3⟩)
    · rintro j ⟨y4, y5⟩ hj hc ⟨hy, hy0⟩
      simp only at hc hy hy0
      subst hc
      have ho := hof B (fB 41 (by decide)) j hj
      have hlj := hl j hj
      have hle := zEqv_nn (l := l) (n := 256) (v := v)
      have hle2 := zEqv_nn (l := l) (n := j) (v := v)
      dsimp only
      rw [gb_X4_ranked_79]
      refine zO_brn (by omega) (by omega) (by omega) (zO_b1e ho ?_)
      by_cases h6 : l j = v
      · refine zO_brn (by omega) (by omega) (by omega) ?_
        by_cases h7 : y4 = 0
        · have hr : sRk (sKey l) j = k := by rw [sRk_key hj, h6]; omega
          refine zO_brn (by omega) (by omega) (by omega) (zO_inr (zO_some ⟨?_, by dsimp only; omega, by dsimp only; omega, ?_, fB⟩))
          · exact (sAh_at hj hr).symm
          · dsimp only; rw [Int.toNat_natCast]; exact hr
        · refine zO_brp (by omega) (by omega) (by omega) (zO_lt (zO_lt (zO_inl ⟨by dsimp only; omega, ?_, by dsimp only; omega⟩)))
          dsimp only
          rw [zEqv_s, if_pos h6]
          omega
      · refine zO_brp (by omega) (by omega) (by omega) (zO_lt (zO_inl ⟨by dsimp only; omega, ?_, hy0⟩))
        dsimp only
        rw [zEqv_s, if_neg h6]
        omega
    · rintro ⟨y4, y5⟩ hc ⟨hy, hy0⟩
      simp only at hc hy hy0
      omega
theorem g11_rank {k : zK} {c : Nat} {M : zM} (hc : c < 256) (hl : ∀ x, x < 256 → 0 ≤ M 126 x ∧ M 126 x ≤ 99) : g_X11_rankOf k c M = some (sRk (sKey (M 126)) c) := by
  apply zO_get
  unfold g_X11_rankOf
  have h := zO_sum (F := gb_X11_rankOf_4 k c M) (N := 256) (fun b => if sKey (M 126) b < sKey (M 126) c ∨ (sKey (M 126) b = sKey (M 126) c ∧ b < c) then 1 else 0) ?_ ?_ (by omega) 0
  · refine zO_b1e h (zO_some ?_)
    rw [Int.zero_add]
    rfl
  · intro a j hj
    have h1 := hl j hj
    have h2 := hl c hc
    apply zO_get
    rw [gb_X11_rankOf_4]
    simp only [Int.toNat_natCast]
    unfold sKey
    refine zO_brn (by omega) (by omega) (by omega) (zO_gd (by omega) (zO_gd (by omega) (zO_sp1 ?_)))
    by_cases h3 : M 126 c < M 126 j
    · refine zO_brp (by omega) (by omega) h3 (zO_inlk (zO_lt (zO_lt (zO_some ?_))))
      rw [if_pos (by omega), show (j : Int) + 1 = ((j + 1 : Nat) : Int) by omega]
    · refine zO_brn (by omega) (by omega) h3 (zO_gd (by omega) (zO_gd (by omega) (zO_sp0 ?_)))
      by_cases h4 : M 126 j = M 126 c
      · refine zO_brn (by omega) (by omega) (by omega) ?_
        by_cases h5 : j < c
        · refine zO_brn (by omega) (by omega) (by omega) (zO_inrk ⟨_, rfl, ?_⟩)
          refine zO_lt (zO_lt (zO_some ?_))
          rw [if_pos (by omega), show (j : Int) + 1 = ((j + 1 : Nat) : Int) by omega]
        · refine zO_brp (by omega) (by omega) (by omega) (zO_inlk (zO_lt (zO_lt (zO_inrk (zO_some ?_)))))
          rw [if_neg (by omega), show (j : Int) + 1 = ((j + 1 : Nat) : Int) by omega]
      · refine zO_brp (by omega) (by omega) (by omega) (zO_inlk (zO_lt (zO_lt (zO_inrk (zO_some ?_)))))
        rw [if_neg (by omega), show (j : Int) + 1 = ((j + 1 : Nat) : Int) by omega]
  · intro a
    apply zO_get
    rw [gb_X11_rankOf_4]
    exact zO_brp (by omega) (by omega) (by omega) (zO_some rfl)
theorem p_ahead {i L : Nat} {M : zM} {E : zE} {p1 p2 : Int} (hI : zInv i L M E) (h1 : zr p1) (h2 : zr p2) : zP2 i L E (g_X10_ahead (zKn i) p1 p2) (g_X11_ahead (zKn i) p1 p2) M := by
  by_cases ha : 0 ≤ p1 ∧ p1 < 100
  · by_cases hk : 0 ≤ p2 ∧ p2 < 256
    · obtain ⟨a, rfl⟩ : ∃ a : Nat, p1 = a := ⟨p1.toNat, by omega⟩
      refine zP2_of (fun M => sAh (zlv E M a) p2) hI ?_ (fun M' h => ?_) (fun M' q => sAh_congr (fun c _ => zlv_q (zgm_qc q)))
      · obtain ⟨tb, _⟩ := t_age (k := zKn i) (M := M) ha
        unfold g_X10_ahead
        refine zO_b1e tb (zO_brn (by omega) (by omega) (by omega) (zO_brn (by omega) (by omega) (by omega) (zO_brp (by omega) (by omega) (by omega) ?_)))
        refine zO_b1q (g10_settle' hI) ?_
        rintro A ⟨hq, hse, hI'⟩
        refine zO_bdq (g10_span hI'.1 hse (a := a) (by omega)) ?_
        rintro B v ⟨b1, b2, b3, _, b5, b6, b7⟩
        dsimp only at b1 b2 b3 b5 b6 b7
        have qB : zQw A B := ⟨b2, b7 46 (by decide), b7 47 (by decide)⟩
        have hp := hI.1.1.2.2.2.2.1 a (by omega)
        have hg := zgm_qc (E := E) hq.1
        rw [b1]
        refine zO_bdq (g4_ranked (l := zlv E M a) (fun c _ => sLiv_r hI.1.1) ?_ hk) ?_
        · intro M' e41 c hc
          have := b6 c hc
          rw [zlv_q hg] at this
          unfold g_X4_of
          rw [zgd_p (by omega), e41, ← this]
          congr 2
          omega
        · rintro C u ⟨c1, _, _, _, fC⟩
          dsimp only at c1 fC
          have sC : zSe C E := b3.fr (by rw [fC 1 (by decide)]) (fun x hx => fC x (by simp; omega))
          exact zO_some ⟨c1, (hq.tr qB).tr (zQw.of fC (by decide)), sC.ca⟩
      · obtain ⟨_, tb⟩ := t_age (k := zKn i) (M := M') ha
        obtain ⟨_, tc⟩ := t_cell (k := zKn i) (M := M') hk
        unfold g_X11_ahead
        refine zO_b1e tb (zO_brn (by omega) (by omega) (by omega) (zO_b1e tc (zO_brp (by omega) (by omega) (by omega) ?_)))
        refine zO_b1q (g11_lives h.1 (a := a) (by omega)) ?_
        rintro A ⟨hq, hv, hA⟩
        have hl : ∀ x, x < 256 → 0 ≤ A 126 x ∧ A 126 x ≤ 99 := fun x hx => by rw [hA x hx]; exact sLiv_r h.1.1
        have hrk : ∀ c, c < 256 → sRk (sKey (A 126)) c = sRk (sKey (zlv E M' a)) c := fun c hc => sRk_congr (fun b hb => by unfold sKey; rw [hA b hb]) hc
        refine zO_sp0 ?_
        unfold zw1
        refine zO_mono (zO_find (F := fun t => gb_X11_ahead_23 (zKn i) p2 A t) 256 (fun j => sRk (sKey (zlv E M' a)) j = p2) (fun j => Sum.inr (A, (j : Int))) (t := Sum.inl ()) ?_ ?_ ?_ (by omega) 0 (by omega)) ?_
        · intro j hj hn
          have hr := sRk_r (m := sKey (zlv E M' a)) hj
          have hg := g11_rank (k := zKn i) (c := j) hj hl
          rw [hrk j hj] at hg
          apply zO_get
          rw [gb_X11_ahead_23]
          refine zO_brn (by omega) (by omega) (by omega) (zO_b1e hg (zO_brp (by omega) (by omega) hn (zO_lt (zO_some ?_))))
          rw [show (j : Int) + 1 = ((j + 1 : Nat) : Int) by omega]
        · intro j hj hn
          have hr := sRk_r (m := sKey (zlv E M' a)) hj
          have hg := g11_rank (k := zKn i) (c := j) hj hl
          rw [hrk j hj] at hg
          apply zO_get
          rw [gb_X11_ahead_23]
          exact zO_brn (by omega) (by omega) (by omega) (zO_b1e hg (zO_brn (by omega) (by omega) (by omega) (zO_some rfl)))
        · apply zO_get
          rw [gb_X11_ahead_23]
          exact zO_brp (by omega) (by omega) (by omega) (zO_some rfl)
        · rintro u (⟨j, _, j2, j3, _, rfl⟩ | ⟨j1, rfl⟩)
          · exact zO_some ⟨(sAh_at j2 j3).symm, hq⟩
          · obtain ⟨x, hx, ex⟩ := sRk_sur (m := sKey (zlv E M' a)) hk.1 hk.2
            exact absurd ex (j1 x (by omega) hx)
    · refine zP2_of (fun _ => -1) hI ?_ (fun M' h => ?_) (fun _ _ => rfl)
      · obtain ⟨tb, _⟩ := t_age (k := zKn i) (M := M) ha
        unfold g_X10_ahead
        refine zO_b1e tb (zO_brn (by omega) (by omega) (by omega) ?_)
        by_cases h0 : p2 < 0
        · exact zO_brp (by omega) (by omega) h0 (zO_some ⟨rfl, zQw.rf, hI.2.1⟩)
        · exact zO_brn (by omega) (by omega) h0 (zO_brn (by omega) (by omega) (by omega) (zO_some ⟨rfl, zQw.rf, hI.2.1⟩))
      · obtain ⟨_, tb⟩ := t_age (k := zKn i) (M := M') ha
        obtain ⟨_, tc⟩ := t_cell_n (k := zKn i) (M := M') h2 hk
        unfold g_X11_ahead
        exact zO_b1e tb (zO_brn (by omega) (by omega) (by omega) (zO_b1e tc (zO_brn (by omega) (by omega) (by omega) (zO_some ⟨rfl, zQm.rf⟩))))
  · refine zP2_of (fun _ => -1) hI ?_ (fun M' h => ?_) (fun _ _ => rfl)
    · obtain ⟨tb, _⟩ := t_age_n (k := zKn i) (M := M) h1 ha
      unfold g_X10_ahead
      exact zO_b1e tb (zO_brp (by omega) (by omega) (by omega) (zO_some ⟨rfl, zQw.rf, hI.2.1⟩))
    · obtain ⟨_, tb⟩ := t_age_n (k := zKn i) (M := M') h1 ha
      unfold g_X11_ahead
      exact zO_b1e tb (zO_brp (by omega) (by omega) (by omega) (zO_some ⟨rfl, zQm.rf⟩))

/-! unlike -/
def sLk (E : zE) (M : zM) (a k n : Nat) : Int := zsum n (fun c => if eV E a < zgm E M c ∧ sKi (zgm E M) (eV E a) c = (k : Int) then 1 else 0)
def sLa (E : zE) (M : zM) (a n : Nat) : Int := zsum n (fun c => if eV E a < zgm E M c then 1 else 0)
theorem sLk_r {E : zE} {M : zM} {a k n : Nat} : 0 ≤ sLk E M a k n ∧ sLk E M a k n ≤ sLa E M a n := by
  refine ⟨zsum_nn (fun c _ => by show 0 ≤ (if _ then (1 : Int) else 0); split <;> omega), zsum_mono (fun c _ => ?_)⟩
  by_cases h : eV E a < zgm E M c
  · rw [if_pos h]; split <;> omega
  · rw [if_neg h, if_neg (fun h' => h h'.1)]; omega
theorem sLa_r {E : zE} {M : zM} {a n : Nat} : 0 ≤ sLa E M a n ∧ sLa E M a n ≤ n := by
  have h1 : 0 ≤ sLa E M a n := zsum_nn (fun c _ => by show 0 ≤ (if _ then (1 : Int) else 0); split <;> omega)
  have h2 : sLa E M a n ≤ (n : Int) * 1 := zsum_le (fun c _ => by show (if _ then (1 : Int) else 0) ≤ 1; split <;> omega)
  omega
theorem sLk_sum {E : zE} {M : zM} {a n : Nat} : zsum 16 (fun k => sLk E M a k n) = sLa E M a n := by
  unfold sLk
  rw [zsum_swap]
  refine zsum_congr (fun c _ => ?_)
  by_cases h : eV E a < zgm E M c
  · rw [if_pos h]
    have hk := sKi_r (m := zgm E M) (lv := eV E a) (c := c)
    rw [zsum_congr (g := fun k => if k = (sKi (zgm E M) (eV E a) c).toNat then (1 : Int) else 0) (fun k _ => by
      by_cases h2 : k = (sKi (zgm E M) (eV E a) c).toNat
      · rw [if_pos ⟨h, by omega⟩, if_pos h2]
      · rw [if_neg (fun h' => h2 (by omega)), if_neg h2])]
    exact zsum_one (by omega)
  · rw [if_neg h]
    exact zsum_zero (fun k _ => if_neg (fun h' => h h'.1))
def zDs (E : zE) (M : zM) (a k : Nat) : Int := zabs (1000 * sLk E M a k 256 / sLa E M a 256 - 1000 * M 7 k / M 4 16)
def sUnl (E : zE) (M : zM) (a : Nat) : Int := if sLa E M a 256 = 0 then -1 else zsum 16 (zDs E M a)
theorem sUnl_q {E : zE} {M M' : zM} {a : Nat} (q : ∀ q, q < 21 → q ≠ 1 → M' q = M q) : sUnl E M' a = sUnl E M a ∧ sLa E M' a 256 = sLa E M a 256 ∧ (∀ k n, sLk E M' a k n = sLk E M a k n) ∧ ∀ n, sLa E M' a n = sLa E M a n := by
  have hg : zgm E M' = zgm E M := by unfold zgm; rw [q 5 (by omega) (by omega), q 18 (by omega) (by omega)]
  have h1 : ∀ n, sLa E M' a n = sLa E M a n := fun n => by unfold sLa; rw [hg]
  have h2 : ∀ k n, sLk E M' a k n = sLk E M a k n := fun k n => by unfold sLk; rw [hg]
  refine ⟨?_, h1 256, h2, h1⟩
  unfold sUnl
  rw [h1 256]
  have : zDs E M' a = zDs E M a := by
    funext k
    unfold zDs
    rw [h1 256, h2, q 7 (by omega) (by omega), q 4 (by omega) (by omega)]
  rw [this]
theorem z_div {x y : Int} (hx : 0 ≤ x) (hy : x ≤ y) (h0 : 0 < y) : 0 ≤ 1000 * x / y ∧ 1000 * x / y ≤ 1000 := by
  refine ⟨Int.ediv_nonneg (by omega) (by omega), ?_⟩
  have : 1000 * x / y ≤ 1000 * y / y := Int.ediv_le_ediv h0 (by omega)
  rw [Int.mul_ediv_cancel _ (by omega)] at this
  exact this
theorem zSt.dryn {i L : Nat} {M : zM} {E : zE} (h : zSt i L M E) : ∃ n : Nat, M 4 16 = n ∧ M 78 0 = n ∧ n ≤ 80 := by
  have := h.2.2.1.2.2.2.2.2.1
  refine ⟨(M 78 0).toNat, ?_, ?_, ?_⟩ <;> omega
theorem zSt.dry7 {i L : Nat} {M : zM} {E : zE} (h : zSt i L M E) {k n : Nat} (hn : M 78 0 = (n : Int)) (hk : k < 16) : 0 ≤ M 7 k ∧ M 7 k ≤ n ∧ M 7 k = zsum n (fun d => if M 86 d = (k : Int) then 1 else 0) := by
  have h8 := (h.2.2.1.2.2.2.2.2.2.2.1 k hk).1
  rw [hn, Int.toNat_natCast] at h8
  have e : M 7 k = zsum n (fun d => if M 86 d = (k : Int) then 1 else 0) := by
    rw [show M 7 k = _ from h8]
    exact zsum_congr (fun d _ => by rw [show 80 * 0 + d = d by omega])
  have h1 : 0 ≤ zsum n (fun d => if M 86 d = (k : Int) then (1 : Int) else 0) := zsum_nn (fun d _ => by show 0 ≤ (if _ then (1 : Int) else 0); split <;> omega)
  have h2 : zsum n (fun d => if M 86 d = (k : Int) then (1 : Int) else 0) ≤ (n : Int) * 1 := zsum_le (fun d _ => by show (if _ then (1 : Int) else 0) ≤ 1; split <;> omega)
  exact ⟨by omega, by omega, e⟩
theorem g8_kinds {i L : Nat} {M : zM} {E : zE} {a : Nat} (hs : zSt i L M E) (hv : zVw M E (eV E a)) : zO (g_X8_countKinds (zKn i) M) (fun r => r.2 = 38 ∧ zFr [38] M r.1 ∧ ∀ k : Nat, k < 16 → r.1 38 k = sLk E M a k 256) := by
  unfold g_X8_countKinds
  refine zO_b1e (zfill zl_38 (by omega)) ?_
  generalize hA : (fun a b => if a = 38 ∧ b < 16 then (0 : Int) else M a b) = A
  have fA : zFr [38] M A := by
    intro q hq
    rw [← hA]
    funext b
    have : q ≠ 38 := fun e => hq (by rw [e]; decide)
    simp [this]
  have zA : ∀ v, v < 16 → A 38 v = 0 := by
    intro v hv
    rw [← hA]
    simp [hv]
  refine zO_b1 ?_
  unfold zw2
  refine zO_for (fun s => s.1) 256 (fun j s => zFr [38] M s.2 ∧ ∀ k : Nat, k < 16 → s.2 38 k = sLk E M a k j) ?_ ?_ (by omega) 0 (by omega) rfl ⟨fA, fun v hv => (zA v hv).trans rfl⟩
  · rintro j ⟨y, M'⟩ hj hc ⟨hfr, hI⟩
    simp only at hc hfr hI
    subst hc
    have q' : zQc M M' := zQc.of hfr (by decide)
    have hv' : zVw M' E (eV E a) := hv.fr (by rw [hfr 1 (by decide)]) (fun x hx => hfr x (by simp; omega))
    have hg : zgm E M' = zgm E M := zgm_qc q'
    have hl := hv'.land hj
    have hki := hv'.ki (hs.qc q') (c := (j : Int)) ⟨by omega, by omega⟩
    rw [hg, Int.toNat_natCast] at hki
    rw [hg] at hl
    have hkr := sKi_r (m := zgm E M) (lv := eV E a) (c := j)
    dsimp only
    rw [gb_X8_countKinds_10]
    simp only [Int.toNat_natCast]
    refine zO_brn (by omega) (by omega) (by omega) (zO_gd (by omega) ?_)
    by_cases h : eV E a < zgm E M j
    · rw [sLand_p h] at hl
      refine zO_brn (by omega) (by omega) (by omega) (zO_b1e hki (zO_gd (by omega) (zO_gd (by omega) (zO_lt (zO_lt (zO_inl ⟨by dsimp only; omega, hfr.st (by decide), fun k hk => ?_⟩))))))
      dsimp only
      rw [zst_r]
      unfold sLk at hI ⊢
      rw [zsum_s]
      by_cases h2 : k = (sKi (zgm E M) (eV E a) j).toNat
      · rw [if_pos ⟨rfl, h2⟩, if_pos ⟨h, by omega⟩, hI _ (by omega), h2]
      · rw [if_neg (fun h' => h2 h'.2), if_neg (fun h' => h2 (by omega)), hI k hk]; omega
    · rw [sLand_n h] at hl
      refine zO_brp (by omega) (by omega) (by omega) (zO_lt (zO_inl ⟨by dsimp only; omega, hfr, fun k hk => ?_⟩))
      dsimp only
      rw [hI k hk]
      unfold sLk
      rw [zsum_s, if_neg (fun h' => h h'.1)]
      omega
  · rintro ⟨y, M'⟩ hc ⟨hfr, hI⟩
    simp only at hc
    subst hc
    dsimp only
    rw [gb_X8_countKinds_10]
    exact zO_brp (by omega) (by omega) (by omega) (zO_inr (zO_some ⟨rfl, hfr, hI⟩))
theorem p_unlike {i L : Nat} {M : zM} {E : zE} {p1 : Int} (hI : zInv i L M E) (h1 : zr p1) : zP2 i L E (g_X10_unlike (zKn i) p1) (g_X11_unlike (zKn i) p1) M := by
  obtain ⟨n, n1, n2, n3⟩ := hI.1.dryn
  by_cases ha : 0 ≤ p1 ∧ p1 < 100
  · by_cases hn : n = 0
    · refine zP2_ofq (-1) hI ?_ (fun M' h q => ?_)
      · obtain ⟨tb, _⟩ := t_age (k := zKn i) (M := M) ha
        unfold g_X10_unlike
        exact zO_b1e tb (zO_brn (by omega) (by omega) (by omega) (zO_brn (by omega) (by omega) (by omega) (zO_some ⟨rfl, zQw.rf, hI.2.1⟩)))
      · obtain ⟨_, tb⟩ := t_age (k := zKn i) (M := M') ha
        have n2' : M' 78 0 = (n : Int) := by rw [q.1 78 (by omega) (by omega)]; exact n2
        unfold g_X11_unlike
        simp only [Int.toNat_zero, n2']
        exact zO_b1e tb (zO_brn (by omega) (by omega) (by omega) (zO_gd (by omega) (zO_brn (by omega) (by omega) (by omega) (zO_some ⟨rfl, zQm.rf⟩))))
    · obtain ⟨a, rfl⟩ : ∃ a : Nat, p1 = a := ⟨p1.toNat, by omega⟩
      refine zP2_ofq (sUnl E M a) hI ?_ (fun M' h q => ?_)
      · obtain ⟨tb, _⟩ := t_age (k := zKn i) (M := M) ha
        unfold g_X10_unlike
        refine zO_b1e tb (zO_brn (by omega) (by omega) (by omega) (zO_brp (by omega) (by omega) (by omega) ?_))
        refine zO_bdq (g10_view' (by omega) hI) ?_
        rintro A v ⟨hv1, hq, hv, hI'⟩
        dsimp only at hv1 hq hv hI'
        subst hv1
        refine zO_gd zt_21 ?_
        simp only [show (21 : Int).toNat = 21 from rfl, e_X8_countKinds]
        obtain ⟨u1, u2, u3, u4⟩ := sUnl_q (E := E) (M' := A) (M := M) (a := a) (fun x a b => hq.1.1 x (by omega) (by omega))
        refine zO_bdq (g8_kinds hI'.1 hv) ?_
        rintro B v ⟨b1, fB, hB⟩
        dsimp only at b1 fB hB
        subst b1
        simp only [u3] at hB
        have sB : zSe B E := hv.1.fr (by rw [fB 1 (by decide)]) (fun x hx => fB x (by simp; omega))
        have qB : zQw A B := zQw.of fB (by decide)
        have e4 : B 4 = M 4 := by rw [fB 4 (by decide), hq.1.1 4 (by omega) (by omega)]
        have e7 : B 7 = M 7 := by rw [fB 7 (by decide), hq.1.1 7 (by omega) (by omega)]
        refine zO_gd ⟨zt_38, by rw [show (38 : Int).toNat = 38 from rfl, zl_38]; rfl⟩ ?_
        simp only [show (38 : Int).toNat = 38 from rfl, eb_X10_unlike_33, eb_X10_unlike_65]
        have la := sLa_r (E := E) (M := M) (a := a) (n := 256)
        have hl1 : zw2 (gb_X10_unlike_33 (zKn i) B) zfu 0 0 = some (sLa E M a 256) := by
          have h := zO_sum (F := gb_X10_unlike_33 (zKn i) B) (N := 16) (fun k => sLk E M a k 256) (fun b j hj => by
            apply zO_get
            rw [gb_X10_unlike_33]
            simp only [Int.toNat_natCast, hB j hj]
            refine zO_brn (by omega) (by omega) (by omega) (zO_gd (by omega) (zO_lt (zO_lt (zO_some ?_))))
            rw [show (j : Int) + 1 = ((j + 1 : Nat) : Int) by omega]) (fun b => by
            apply zO_get
            rw [gb_X10_unlike_33]
            exact zO_brp (by omega) (by omega) (by omega) (zO_some rfl)) (by omega) 0
          rw [h, Int.zero_add, sLk_sum]
        refine zO_b1e hl1 ?_
        unfold sUnl
        by_cases h0 : sLa E M a 256 = 0
        · rw [if_pos h0]
          exact zO_brn (by omega) (by omega) (by omega) (zO_some ⟨rfl, hq.tr qB, sB.ca⟩)
        · rw [if_neg h0]
          refine zO_brp (by omega) (by omega) h0 ?_
          have hl2 : zw2 (gb_X10_unlike_65 (zKn i) (sLa E M a 256) B) zfu 0 0 = some (0 + zsum 16 (zDs E M a)) := by
            refine zO_sum _ ?_ ?_ (by omega) 0
            · intro b j hj
              have lk := sLk_r (E := E) (M := M) (a := a) (k := j) (n := 256)
              obtain ⟨d1, d2, _⟩ := hI.1.dry7 n2 hj
              have r1 := z_div lk.1 lk.2 (by omega)
              have r2 := z_div d1 d2 (by omega)
              apply zO_get
              rw [gb_X10_unlike_65]
              simp only [Int.toNat_natCast, hB j hj, e4, e7, n1]
              refine zO_brn (by omega) (by omega) (by omega) (zO_gd (by omega) (zO_gd (by omega) (zO_lt (zO_gd (by omega) (zO_gd (by omega) (zO_lt (zO_gd (by omega) (zO_lt (zO_lt (zO_some ?_))))))))))
              rw [show (j : Int) + 1 = ((j + 1 : Nat) : Int) by omega]
              unfold zDs
              rw [n1]
            · intro b
              apply zO_get
              rw [gb_X10_unlike_65]
              exact zO_brp (by omega) (by omega) (by omega) (zO_some rfl)
          exact zO_b1e hl2 (zO_some ⟨by dsimp only; omega, hq.tr qB, sB.ca⟩)
      · obtain ⟨_, tb⟩ := t_age (k := zKn i) (M := M') ha
        have n2' : M' 78 0 = (n : Int) := by rw [q.1 78 (by omega) (by omega)]; exact n2
        unfold g_X11_unlike
        simp only [Int.toNat_zero, n2']
        refine zO_b1e tb (zO_brn (by omega) (by omega) (by omega) (zO_gd (by omega) (zO_brp (by omega) (by omega) (by omega) ?_)))
        refine zO_b1q (g11_finds h.1 (a := a) (by omega)) ?_
        rintro A ⟨hq, hv⟩
        have hI' := h.qm hq
        obtain ⟨u1, u2, u3, u4⟩ := sUnl_q (E := E) (M' := A) (M := M) (a := a) (fun x a b => by rw [hq.1 x (by omega) (by omega), q.1 x (by omega) (by omega)])
        have a78 : A 78 0 = (n : Int) := by rw [hq.1 78 (by omega) (by omega)]; exact n2'
        -- zeros
        refine zO_b1q (Q := fun B => zFr [127, 128] A B ∧ ∀ k, k < 16 → B 127 k = 0 ∧ B 128 k = 0) ?_ ?_
        · unfold zw2
          refine zO_for (fun s => s.1) 16 (fun j s => zFr [127, 128] A s.2 ∧ ∀ k, k < j → s.2 127 k = 0 ∧ s.2 128 k = 0) ?_ ?_ (by omega) 0 (by omega) rfl ⟨zFr_refl, fun k hk => by omega⟩
          · rintro j ⟨y, B⟩ hj hc ⟨hfr, hB⟩
            simp only at hc hfr hB
            subst hc
            dsimp only
            rw [gb_X11_unlike_27]
            refine zO_brn (by omega) (by omega) (by omega) (zO_gd (by omega) (zO_lt (zO_gd (by omega) (zO_lt (zO_lt (zO_inl ⟨by dsimp only; omega, (hfr.st (by decide)).st (by decide), fun k hk => ?_⟩))))))
            dsimp only
            simp (disch := omega) only [zst_ne, zst_s, Int.toNat_natCast]
            rcases Nat.lt_or_ge k j with h2 | h2
            · simp (disch := omega) only [zup_ne]
              exact hB k h2
            · have : k = j := by omega
              subst this
              simp only [zup_eq, and_self]
          · rintro ⟨y, B⟩ hc hB
            simp only at hc
            subst hc
            dsimp only
            rw [gb_X11_unlike_27]
            exact zO_brp (by omega) (by omega) (by omega) (zO_inr hB)
        rintro B ⟨fB, hB⟩
        have vB := hv.fr2 fB (by decide)
        have qB : zQm A B := zQm.of fB (by decide)
        have hsB := hI'.1.qm qB
        have hgB : zgm E B = zgm E M := by rw [zgm_qm qB, zgm_qm hq, zgm_qc q]
        -- kinds of land
        refine zO_b2 (zO_mono (Q := fun r => r.1 = sLa E M a 256 ∧ zFr [127] B r.2 ∧ ∀ k : Nat, k < 16 → r.2 127 k = sLk E M a k 256) ?_ ?_)
        · unfold zw3
          refine zO_for (fun s => s.2.1) 256 (fun j s => s.1 = sLa E M a j ∧ zFr [127] B s.2.2 ∧ ∀ k : Nat, k < 16 → s.2.2 127 k = sLk E M a k j) ?_ ?_ (by omega) 0 (by omega) rfl (by dsimp only; exact ⟨rfl, zFr_refl, fun k hk => ((hB k hk).1).trans rfl⟩)
          · rintro j ⟨y2, y3, C⟩ hj hc ⟨hy, hfr, hC⟩
            simp only at hc hy hfr hC
            subst hc
            have qC : zQm B C := zQm.of hfr (by decide)
            have vC := vB.fr2 hfr (by decide)
            have hl := vC.land (hsB.qm qC) hj
            have hki := vC.ki (hsB.qm qC) (by omega : a < 100) (c := (j : Int)) ⟨by omega, by omega⟩
            rw [zgm_qm qC, hgB, Int.toNat_natCast] at hki
            rw [zgm_qm qC, hgB] at hl
            have hkr := sKi_r (m := zgm E M) (lv := eV E a) (c := j)
            dsimp only
            rw [gb_X11_unlike_55]
            simp only [Int.toNat_natCast]
            refine zO_brn (by omega) (by omega) (by omega) (zO_gd (by omega) ?_)
            by_cases h : eV E a < zgm E M j
            · rw [sLand_p h] at hl
              refine zO_brp (by omega) (by omega) (by omega) (zO_lt (zO_b1e hki (zO_gd (by omega) (zO_gd (by omega) (zO_lt (zO_lt (zO_inl ⟨by dsimp only; omega, ?_, hfr.st (by decide), fun k hk => ?_⟩)))))))
              · dsimp only; rw [hy]; unfold sLa; rw [zsum_s, if_pos h]
              · dsimp only
                rw [zst_r]
                unfold sLk at hC ⊢
                rw [zsum_s]
                by_cases h2 : k = (sKi (zgm E M) (eV E a) j).toNat
                · rw [if_pos ⟨rfl, h2⟩, if_pos ⟨h, by omega⟩, hC _ (by omega), h2]
                · rw [if_neg (fun h' => h2 h'.2), if_neg (fun h' => h2 (by omega)), hC k hk]; omega
            · rw [sLand_n h] at hl
              refine zO_brn (by omega) (by omega) (by omega) (zO_lt (zO_inl ⟨by dsimp only; omega, ?_, hfr, fun k hk => ?_⟩))
              · dsimp only; rw [hy]; unfold sLa; rw [zsum_s, if_neg h]; omega
              · dsimp only
                rw [hC k hk]
                unfold sLk
                rw [zsum_s, if_neg (fun h' => h h'.1)]
                omega
          · rintro ⟨y2, y3, C⟩ hc ⟨hy, hfr, hC⟩
            simp only at hc
            subst hc
            dsimp only
            rw [gb_X11_unlike_55]
            exact zO_brp (by omega) (by omega) (by omega) (zO_inr ⟨hy, hfr, hC⟩)
        rintro ⟨all, C⟩ ⟨c1, fC, hC⟩
        dsimp only at c1 fC hC
        have qC : zQm B C := zQm.of fC (by decide)
        have la := sLa_r (E := E) (M := M) (a := a) (n := 256)
        dsimp only
        rw [c1]
        unfold sUnl
        by_cases h0 : sLa E M a 256 = 0
        · rw [if_pos h0]
          exact zO_brn (by omega) (by omega) (by omega) (zO_some ⟨rfl, (hq.tr qB).tr qC⟩)
        · rw [if_neg h0]
          refine zO_brp (by omega) (by omega) h0 ?_
          have c86 : C 86 = M 86 := by rw [fC 86 (by decide), fB 86 (by decide), hq.1 86 (by omega) (by omega), q.1 86 (by omega) (by omega)]
          have c78 : C 78 0 = (n : Int) := by rw [fC 78 (by decide), fB 78 (by decide)]; exact a78
          have c128 : ∀ k, k < 16 → C 128 k = 0 := fun k hk => by rw [fC 128 (by decide)]; exact (hB k hk).2
          refine zO_b1q (Q := fun D => zFr [128] C D ∧ ∀ k : Nat, k < 16 → D 128 k = zsum n (fun d => if M 86 d = (k : Int) then 1 else 0)) ?_ ?_
          · unfold zw2
            refine zO_for (fun s => s.1) n (fun j s => zFr [128] C s.2 ∧ ∀ k : Nat, k < 16 → s.2 128 k = zsum j (fun d => if M 86 d = (k : Int) then 1 else 0)) ?_ ?_ (by omega) 0 (by omega) rfl ⟨zFr_refl, fun k hk => (c128 k hk).trans rfl⟩
            · rintro j ⟨y, D⟩ hj hc ⟨hfr, hD⟩
              simp only at hc hfr hD
              subst hc
              have h86 := hI.1.2.2.1.2.2.2.2.2.2.1 j (by omega)
              rw [show 80 * 0 + j = j by omega] at h86
              have d78 : D 78 0 = (n : Int) := by rw [hfr 78 (by decide)]; exact c78
              have d86 : D 86 = M 86 := by rw [hfr 86 (by decide)]; exact c86
              dsimp only
              rw [gb_X11_unlike_105]
              simp only [Int.toNat_natCast, Int.toNat_zero, d78, d86]
              refine zO_gd (by omega) (zO_brn (by omega) (by omega) (by omega) (zO_gd (by omega) (zO_gd (by omega) (zO_gd (by omega) (zO_lt (zO_lt (zO_inl ⟨by dsimp only; omega, hfr.st (by decide), fun k hk => ?_⟩)))))))
              dsimp only
              rw [zst_r, zsum_s]
              by_cases h2 : k = (M 86 j).toNat
              · rw [if_pos ⟨rfl, h2⟩, if_pos (by omega), hD _ (by omega), h2]
              · rw [if_neg (fun h' => h2 h'.2), if_neg (by omega), hD k hk]; omega
            · rintro ⟨y, D⟩ hc ⟨hfr, hD⟩
              simp only at hc hfr hD
              subst hc
              have d78 : D 78 0 = (n : Int) := by rw [hfr 78 (by decide)]; exact c78
              dsimp only
              rw [gb_X11_unlike_105]
              simp only [Int.toNat_zero, d78]
              exact zO_gd (by omega) (zO_brp (by omega) (by omega) (by omega) (zO_inr ⟨hfr, hD⟩))
          · rintro D ⟨fD, hD⟩
            have qD : zQm C D := zQm.of fD (by decide)
            have d78 : D 78 0 = (n : Int) := by rw [fD 78 (by decide)]; exact c78
            have hl2 : zw2 (gb_X11_unlike_141 (zKn i) (sLa E M a 256) D) zfu 0 0 = some (0 + zsum 16 (zDs E M a)) := by
              refine zO_sum _ ?_ ?_ (by omega) 0
              · intro b j hj
                have lk := sLk_r (E := E) (M := M) (a := a) (k := j) (n := 256)
                obtain ⟨d1, d2, d3⟩ := hI.1.dry7 n2 hj
                have r1 := z_div lk.1 lk.2 (by omega)
                have r2 := z_div d1 d2 (by omega)
                have e1 : D 127 j = sLk E M a j 256 := by rw [fD 127 (by decide)]; exact hC j hj
                have e2 : D 128 j = M 7 j := by rw [hD j hj, d3]
                have hdist : f_X11_distance (zKn i) (1000 * sLk E M a j 256 / sLa E M a 256) (1000 * M 7 j / (n : Int)) D = some (zDs E M a j) := by
                  unfold zDs
                  rw [n1]
                  generalize 1000 * sLk E M a j 256 / sLa E M a 256 = x at *
                  generalize 1000 * M 7 j / (n : Int) = y at *
                  apply zO_get
                  unfold f_X11_distance zabs
                  refine zO_br (by omega) (by omega) (fun h => zO_some ?_) (fun h => zO_some ?_)
                  · by_cases h5 : 0 < x - y
                    · rw [if_pos h5]
                    · rw [if_neg h5]; omega
                  · rw [if_neg (by omega)]; omega
                apply zO_get
                rw [gb_X11_unlike_141]
                simp only [Int.toNat_natCast, Int.toNat_zero, e1, e2, d78]
                refine zO_brn (by omega) (by omega) (by omega) (zO_gd (by omega) (zO_gd (by omega) (zO_gd (by omega) (zO_gd (by omega) (zO_gd (by omega) (zO_b1e hdist (zO_lt (zO_lt (zO_some ?_)))))))))
                rw [show (j : Int) + 1 = ((j + 1 : Nat) : Int) by omega]
              · intro b
                apply zO_get
                rw [gb_X11_unlike_141]
                exact zO_brp (by omega) (by omega) (by omega) (zO_some rfl)
            exact zO_b1e hl2 (zO_some ⟨by dsimp only; omega, ((hq.tr qB).tr qC).tr qD⟩)
  · refine zP2_of (fun _ => -1) hI ?_ (fun M' h => ?_) (fun _ _ => rfl)
    · obtain ⟨tb, _⟩ := t_age_n (k := zKn i) (M := M) h1 ha
      unfold g_X10_unlike
      exact zO_b1e tb (zO_brp (by omega) (by omega) (by omega) (zO_some ⟨rfl, zQw.rf, hI.2.1⟩))
    · obtain ⟨_, tb⟩ := t_age_n (k := zKn i) (M := M') h1 ha
      unfold g_X11_unlike
      exact zO_b1e tb (zO_brp (by omega) (by omega) (by omega) (zO_some ⟨rfl, zQm.rf⟩))

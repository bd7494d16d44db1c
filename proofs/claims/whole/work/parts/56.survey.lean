/-! small things -/
theorem f10_besN {k : zK} {c : Int} {d : Nat} {M : zM} (hc : 0 ≤ c ∧ c < 256) (hd : d < 4) : f_X10_beside k c (d : Int) M = some (zbs c.toNat d) := by
  rw [f10_beside hc ⟨by omega, by omega⟩, Int.toNat_natCast]
theorem f11_besN {k : zK} {c : Int} {d : Nat} {M : zM} (hc : 0 ≤ c ∧ c < 256) (hd : d < 4) : f_X11_beside k c (d : Int) M = some (zbs c.toNat (zbw d)) := by
  rw [f11_beside hc ⟨by omega, by omega⟩, Int.toNat_natCast]
theorem zFr.st' {l : List Nat} {M M' : zM} {r s : Nat} {v : Int} (h : zFr l M M') (hr : r ∈ l) : zFr l M (zst M' r s v) := h.st hr
/-- a row filled -/
theorem zfill {i r n : Nat} {v : Int} {M : zM} (hl : zlen (zKn i) r = n) (hn : n < 30000) : f_J7_fill_53178 (zKn i) r v M = some (fun a b => if a = r ∧ b < n then v else M a b) := by
  unfold f_J7_fill_53178
  rw [hl]
  apply zO_get
  refine zO_gd (by omega) (zO_lt (zO_b1 ?_))
  unfold zw2
  refine zO_for (fun s => s.1) n (fun j s => s.2 = (fun a b => if a = r ∧ b < j then v else M a b)) ?_ ?_ (by omega) 0 (Nat.zero_le _) rfl ?_
  · rintro j ⟨y, M'⟩ hj hc hI
    simp only at hc hI
    subst hc hI
    unfold fb_J7_fill_53178_5
    rw [hl]
    dsimp only
    repeat' (first | (with_reducible refine zO_lt ?_) | (with_reducible refine zO_gd ?hc ?_; case hc => (first | omega | (simp (disch := omega) only [zst_ne, zst_s, zup_eq, zup_ne, Int.toNat_natCast]; first | done | omega))) | (with_reducible refine zO_brp ?ha ?hb ?hc ?_; (case ha => (first | omega | (simp (disch := omega) only [zst_ne, zst_s, zup_eq, zup_ne, Int.toNat_natCast]; first | done | omega))); (case hb => (first | omega | (simp (disch := omega) only [zst_ne, zst_s, zup_eq, zup_ne, Int.toNat_natCast]; first | done | omega))); (case hc => (first | omega | (simp (disch := omega) only [zst_ne, zst_s, zup_eq, zup_ne, Int.toNat_natCast]; first | done | omega)))) | (with_reducible refine zO_brn ?ha ?hb ?hc ?_; (case ha => (first | omega | (simp (disch := omega) only [zst_ne, zst_s, zup_eq, zup_ne, Int.toNat_natCast]; first | done | omega))); (case hb => (first | omega | (simp (disch := omega) only [zst_ne, zst_s, zup_eq, zup_ne, Int.toNat_natCast]; first | done | omega))); (case hc => (first | omega | (simp (disch := omega) only [zst_ne, zst_s, zup_eq, zup_ne, Int.toNat_natCast]; first | done | omega)))) | (with_reducible refine zO_br ?ha ?hb (fun _ => ?_) (fun _ => ?_); (case ha => (first | omega | (simp (disch := omega) only [zst_ne, zst_s, zup_eq, zup_ne, Int.toNat_natCast]; first | done | omega))); (case hb => (first | omega | (simp (disch := omega) only [zst_ne, zst_s, zup_eq, zup_ne, Int.toNat_natCast]; first | done | omega)))) | (with_reducible refine zO_ifp ?hc ?_; case hc => (first | omega | (simp (disch := omega) only [zst_ne, zst_s, zup_eq, zup_ne, Int.toNat_natCast]; first | done | omega))) | (with_reducible refine zO_ifn ?hc ?_; case hc => (first | omega | (simp (disch := omega) only [zst_ne, zst_s, zup_eq, zup_ne, Int.toNat_natCast]; first | done | omega))))
    refine zO_inl ⟨by simp, ?_⟩
    dsimp only
    funext a b
    rw [zst_r]
    simp only [Int.toNat_natCast]
    by_cases h : a = r
    · subst h
      by_cases h2 : b = j
      · subst h2; simp
      · rw [if_neg (by omega)]
        by_cases h3 : b < j
        · rw [if_pos ⟨rfl, h3⟩, if_pos ⟨rfl, by omega⟩]
        · rw [if_neg (by omega), if_neg (by omega)]
    · rw [if_neg (by omega), if_neg (by omega), if_neg (by omega)]
  · rintro ⟨y, M'⟩ hc hI
    simp only at hc hI
    subst hc hI
    unfold fb_J7_fill_53178_5
    dsimp only
    repeat' (first | (with_reducible refine zO_lt ?_) | (with_reducible refine zO_gd ?hc ?_; case hc => (first | omega | (simp (disch := omega) only [zst_ne, zst_s, zup_eq, zup_ne, Int.toNat_natCast]; first | done | omega))) | (with_reducible refine zO_brp ?ha ?hb ?hc ?_; (case ha => (first | omega | (simp (disch := omega) only [zst_ne, zst_s, zup_eq, zup_ne, Int.toNat_natCast]; first | done | omega))); (case hb => (first | omega | (simp (disch := omega) only [zst_ne, zst_s, zup_eq, zup_ne, Int.toNat_natCast]; first | done | omega))); (case hc => (first | omega | (simp (disch := omega) only [zst_ne, zst_s, zup_eq, zup_ne, Int.toNat_natCast]; first | done | omega)))) | (with_reducible refine zO_brn ?ha ?hb ?hc ?_; (case ha => (first | omega | (simp (disch := omega) only [zst_ne, zst_s, zup_eq, zup_ne, Int.toNat_natCast]; first | done | omega))); (case hb => (first | omega | (simp (disch := omega) only [zst_ne, zst_s, zup_eq, zup_ne, Int.toNat_natCast]; first | done | omega))); (case hc => (first | omega | (simp (disch := omega) only [zst_ne, zst_s, zup_eq, zup_ne, Int.toNat_natCast]; first | done | omega)))) | (with_reducible refine zO_br ?ha ?hb (fun _ => ?_) (fun _ => ?_); (case ha => (first | omega | (simp (disch := omega) only [zst_ne, zst_s, zup_eq, zup_ne, Int.toNat_natCast]; first | done | omega))); (case hb => (first | omega | (simp (disch := omega) only [zst_ne, zst_s, zup_eq, zup_ne, Int.toNat_natCast]; first | done | omega)))) | (with_reducible refine zO_ifp ?hc ?_; case hc => (first | omega | (simp (disch := omega) only [zst_ne, zst_s, zup_eq, zup_ne, Int.toNat_natCast]; first | done | omega))) | (with_reducible refine zO_ifn ?hc ?_; case hc => (first | omega | (simp (disch := omega) only [zst_ne, zst_s, zup_eq, zup_ne, Int.toNat_natCast]; first | done | omega))))
    exact zO_inr (zO_some rfl)
  · funext a b
    simp
/-! the class's ground -/
theorem g2_low_b {k : zK} {c : Int} {j : Nat} {M : zM} {s : Int × Int} (hc : 0 ≤ c ∧ c < 256) (hj : j < 4) (hm : ∀ j, j < 256 → zr (M 28 j)) (hs : zr s.2) : gb_X2_lowestBeside_12 k c M s.1 s.2 j = some (.inl ((sFl1 (M 28) c.toNat j s).1, (sFl1 (M 28) c.toNat j s).2, ((j + 1 : Nat) : Int))) := by
  apply zO_get
  unfold gb_X2_lowestBeside_12
  have hb := zbs_or (c := c.toNat) (d := j) (by omega) hj
  have h28 := hm (zbs c.toNat j).toNat (by omega)
  repeat' (first | (with_reducible refine zO_b1e (f10_besN hc hj) ?_) | (with_reducible refine zO_lt ?_) | (with_reducible refine zO_gd ?hc ?_; case hc => (first | omega | (simp (disch := omega) only [zst_ne, zst_s, zup_eq, zup_ne, Int.toNat_natCast]; first | done | omega))) | (with_reducible refine zO_brp ?ha ?hb ?hc ?_; (case ha => (first | omega | (simp (disch := omega) only [zst_ne, zst_s, zup_eq, zup_ne, Int.toNat_natCast]; first | done | omega))); (case hb => (first | omega | (simp (disch := omega) only [zst_ne, zst_s, zup_eq, zup_ne, Int.toNat_natCast]; first | done | omega))); (case hc => (first | omega | (simp (disch := omega) only [zst_ne, zst_s, zup_eq, zup_ne, Int.toNat_natCast]; first | done | omega)))) | (with_reducible refine zO_brn ?ha ?hb ?hc ?_; (case ha => (first | omega | (simp (disch := omega) only [zst_ne, zst_s, zup_eq, zup_ne, Int.toNat_natCast]; first | done | omega))); (case hb => (first | omega | (simp (disch := omega) only [zst_ne, zst_s, zup_eq, zup_ne, Int.toNat_natCast]; first | done | omega))); (case hc => (first | omega | (simp (disch := omega) only [zst_ne, zst_s, zup_eq, zup_ne, Int.toNat_natCast]; first | done | omega)))) | (with_reducible refine zO_br ?ha ?hb (fun _ => ?_) (fun _ => ?_); (case ha => (first | omega | (simp (disch := omega) only [zst_ne, zst_s, zup_eq, zup_ne, Int.toNat_natCast]; first | done | omega))); (case hb => (first | omega | (simp (disch := omega) only [zst_ne, zst_s, zup_eq, zup_ne, Int.toNat_natCast]; first | done | omega)))) | (with_reducible refine zO_ifp ?hc ?_; case hc => (first | omega | (simp (disch := omega) only [zst_ne, zst_s, zup_eq, zup_ne, Int.toNat_natCast]; first | done | omega))) | (with_reducible refine zO_ifn ?hc ?_; case hc => (first | omega | (simp (disch := omega) only [zst_ne, zst_s, zup_eq, zup_ne, Int.toNat_natCast]; first | done | omega))))
  all_goals refine zO_some ?_
  all_goals unfold sFl1
  all_goals first | (rw [if_neg (by omega)]; rfl) | (rw [if_pos (by omega)]; rfl)
theorem g2_low {k : zK} {c : Int} {M : zM} (hc : 0 ≤ c ∧ c < 256) (hm : ∀ j, j < 256 → zr (M 28 j)) : g_X2_lowestBeside k c M = some (sFl (M 28) c.toNat) := by
  have hr : ∀ j (s : Int × Int), j < 4 → zr s.2 → zr (sFl1 (M 28) c.toNat j s).2 := fun j s hj hs => by
    have hb := zbs_or (c := c.toNat) (d := j) (by omega) hj
    have h28 := hm (zbs c.toNat j).toNat (by omega)
    unfold sFl1
    split
    · exact h28
    · exact hs
  have h0 : zr (M 28 c.toNat) := hm _ (by omega)
  unfold g_X2_lowestBeside zw3
  rw [zgd_p hc]
  simp only [zlt]
  unfold zfu
  have b0 := g2_low_b (k := k) (j := 0) (s := (-1, M 28 c.toNat)) hc (by omega) hm h0
  have r0 := hr 0 (-1, M 28 c.toNat) (by omega) h0
  have b1 := g2_low_b (k := k) (j := 1) hc (by omega) hm r0
  have r1 := hr 1 _ (by omega) r0
  have b2 := g2_low_b (k := k) (j := 2) hc (by omega) hm r1
  have r2 := hr 2 _ (by omega) r1
  have b3 := g2_low_b (k := k) (j := 3) hc (by omega) hm r2
  rw [zwh_s]
  simp only [] at b0
  rw [show ((0 : Nat) : Int) = 0 from rfl] at b0
  rw [b0]
  simp only []
  rw [zwh_s]
  simp only []
  rw [b1]
  simp only []
  rw [zwh_s]
  simp only []
  rw [b2]
  simp only []
  rw [zwh_s]
  simp only []
  rw [b3]
  simp only []
  rw [zwh_s]
  simp only []
  unfold gb_X2_lowestBeside_12
  rw [zbr_p (by omega) (by omega) (by omega)]
  rfl
/-- how many around are higher -/
theorem g2_cr_in {k : zK} {l1 l2 l3 l4 r a : Int} {M : zM} {e : Nat} (hm : ∀ j, j < 256 → zr (M 28 j)) (h4 : zr l4) (h2 : l2 = 0 ∨ l2 = 1) (h3 : l3 = 0 ∨ l3 = 1) (hr0 : 0 ≤ r - l2) (hr1 : r + l3 < 256) (he : (e : Int) = l2 + l3 + 1) : zw2 (gb_X2_countHigherRound_68 k l1 l2 l3 l4 r M) zfu a (r - l2) = some (a + zsum e (fun t => if l4 < M 28 (r - l2 + t).toNat then 1 else 0)) := by
  have h := zO_up (F := fun t => gb_X2_countHigherRound_68 k l1 l2 l3 l4 r M t.1 t.2) (fun j => (a + zsum j (fun t => if l4 < M 28 (r - l2 + t).toNat then 1 else 0), r - l2 + j)) e (t := a + zsum e (fun t => if l4 < M 28 (r - l2 + t).toNat then 1 else 0)) ?_ ?_ (by omega) 0 (Nat.zero_le _)
  · simpa [zw2, zsum] using h
  · intro j hj
    apply zO_get
    unfold gb_X2_countHigherRound_68
    dsimp only
    have h28 := hm (r - l2 + j).toNat (by omega)
    rw [zsum_s]
    repeat' (first | (with_reducible refine zO_lt ?_) | (with_reducible refine zO_gd ?hc ?_; case hc => (first | omega | (simp (disch := omega) only [zst_ne, zst_s, zup_eq, zup_ne, Int.toNat_natCast]; first | done | omega))) | (with_reducible refine zO_brp ?ha ?hb ?hc ?_; (case ha => (first | omega | (simp (disch := omega) only [zst_ne, zst_s, zup_eq, zup_ne, Int.toNat_natCast]; first | done | omega))); (case hb => (first | omega | (simp (disch := omega) only [zst_ne, zst_s, zup_eq, zup_ne, Int.toNat_natCast]; first | done | omega))); (case hc => (first | omega | (simp (disch := omega) only [zst_ne, zst_s, zup_eq, zup_ne, Int.toNat_natCast]; first | done | omega)))) | (with_reducible refine zO_brn ?ha ?hb ?hc ?_; (case ha => (first | omega | (simp (disch := omega) only [zst_ne, zst_s, zup_eq, zup_ne, Int.toNat_natCast]; first | done | omega))); (case hb => (first | omega | (simp (disch := omega) only [zst_ne, zst_s, zup_eq, zup_ne, Int.toNat_natCast]; first | done | omega))); (case hc => (first | omega | (simp (disch := omega) only [zst_ne, zst_s, zup_eq, zup_ne, Int.toNat_natCast]; first | done | omega)))) | (with_reducible refine zO_br ?ha ?hb (fun _ => ?_) (fun _ => ?_); (case ha => (first | omega | (simp (disch := omega) only [zst_ne, zst_s, zup_eq, zup_ne, Int.toNat_natCast]; first | done | omega))); (case hb => (first | omega | (simp (disch := omega) only [zst_ne, zst_s, zup_eq, zup_ne, Int.toNat_natCast]; first | done | omega)))) | (with_reducible refine zO_ifp ?hc ?_; case hc => (first | omega | (simp (disch := omega) only [zst_ne, zst_s, zup_eq, zup_ne, Int.toNat_natCast]; first | done | omega))) | (with_reducible refine zO_ifn ?hc ?_; case hc => (first | omega | (simp (disch := omega) only [zst_ne, zst_s, zup_eq, zup_ne, Int.toNat_natCast]; first | done | omega))))
    all_goals refine zO_some ?_
    · rw [if_neg (by omega)]
      congr 2
      · omega
      · omega
    · rw [if_pos (by omega)]
      congr 2
      · omega
      · omega
  · apply zO_get
    unfold gb_X2_countHigherRound_68
    dsimp only
    repeat' (first | (with_reducible refine zO_lt ?_) | (with_reducible refine zO_gd ?hc ?_; case hc => (first | omega | (simp (disch := omega) only [zst_ne, zst_s, zup_eq, zup_ne, Int.toNat_natCast]; first | done | omega))) | (with_reducible refine zO_brp ?ha ?hb ?hc ?_; (case ha => (first | omega | (simp (disch := omega) only [zst_ne, zst_s, zup_eq, zup_ne, Int.toNat_natCast]; first | done | omega))); (case hb => (first | omega | (simp (disch := omega) only [zst_ne, zst_s, zup_eq, zup_ne, Int.toNat_natCast]; first | done | omega))); (case hc => (first | omega | (simp (disch := omega) only [zst_ne, zst_s, zup_eq, zup_ne, Int.toNat_natCast]; first | done | omega)))) | (with_reducible refine zO_brn ?ha ?hb ?hc ?_; (case ha => (first | omega | (simp (disch := omega) only [zst_ne, zst_s, zup_eq, zup_ne, Int.toNat_natCast]; first | done | omega))); (case hb => (first | omega | (simp (disch := omega) only [zst_ne, zst_s, zup_eq, zup_ne, Int.toNat_natCast]; first | done | omega))); (case hc => (first | omega | (simp (disch := omega) only [zst_ne, zst_s, zup_eq, zup_ne, Int.toNat_natCast]; first | done | omega)))) | (with_reducible refine zO_br ?ha ?hb (fun _ => ?_) (fun _ => ?_); (case ha => (first | omega | (simp (disch := omega) only [zst_ne, zst_s, zup_eq, zup_ne, Int.toNat_natCast]; first | done | omega))); (case hb => (first | omega | (simp (disch := omega) only [zst_ne, zst_s, zup_eq, zup_ne, Int.toNat_natCast]; first | done | omega)))) | (with_reducible refine zO_ifp ?hc ?_; case hc => (first | omega | (simp (disch := omega) only [zst_ne, zst_s, zup_eq, zup_ne, Int.toNat_natCast]; first | done | omega))) | (with_reducible refine zO_ifn ?hc ?_; case hc => (first | omega | (simp (disch := omega) only [zst_ne, zst_s, zup_eq, zup_ne, Int.toNat_natCast]; first | done | omega))))
    exact zO_some rfl
theorem g2_cr {k : zK} {c : Int} {M : zM} (hc : 0 ≤ c ∧ c < 256) (hm : ∀ j, j < 256 → zr (M 28 j)) : g_X2_countHigherRound k c M = some (sWind (M 28) c.toNat) := by
  obtain ⟨n, rfl⟩ : ∃ n : Nat, c = n := ⟨c.toNat, by omega⟩
  rw [Int.toNat_natCast]
  obtain ⟨w, hw, hw'⟩ : ∃ w : Int, w = (if n % 16 = 0 then 0 else 1) ∧ (w = 0 ∨ w = 1) := ⟨_, rfl, by split <;> omega⟩
  obtain ⟨e, he, he'⟩ : ∃ e : Int, e = (if n % 16 = 15 then 0 else 1) ∧ (e = 0 ∨ e = 1) := ⟨_, rfl, by split <;> omega⟩
  have h0 := hm n (by omega)
  have key : ∀ (j : Nat) (a : Int), j < 3 → gb_X2_countHigherRound_45 k n w e (M 28 n) M a (n - 16 + 16 * (j : Int)) = some (.inl (a + (sWd (M 28) n (3 * j) + sWd (M 28) n (3 * j + 1) + sWd (M 28) n (3 * j + 2)), (n : Int) - 16 + 16 * ((j + 1 : Nat) : Int))) := by
    intro j a hj
    apply zO_get
    unfold gb_X2_countHigherRound_45
    have hcell := f10_isCell (k := k) (c := (n : Int) - 16 + 16 * (j : Int)) (M := M) ⟨by omega, by omega⟩
    by_cases hv : 0 ≤ (n : Int) - 16 + 16 * (j : Int) ∧ (n : Int) - 16 + 16 * (j : Int) < 256
    · rw [if_pos hv] at hcell
      obtain ⟨d, hd⟩ : ∃ d : Nat, (d : Int) = w + e + 1 := ⟨(w + e + 1).toNat, by omega⟩
      have hin := g2_cr_in (k := k) (l1 := n) (l2 := w) (l3 := e) (l4 := M 28 n) (r := n - 16 + 16 * (j : Int)) (a := a) (M := M) (e := d) hm h0 hw' he' (by split at hw <;> omega) (by split at he <;> omega) hd
      repeat' (first | (with_reducible refine zO_b1e hcell ?_) | (with_reducible refine zO_b1e hin ?_) | (with_reducible refine zO_lt ?_) | (with_reducible refine zO_gd ?hc ?_; case hc => (first | omega | (simp (disch := omega) only [zst_ne, zst_s, zup_eq, zup_ne, Int.toNat_natCast]; first | done | omega))) | (with_reducible refine zO_brp ?ha ?hb ?hc ?_; (case ha => (first | omega | (simp (disch := omega) only [zst_ne, zst_s, zup_eq, zup_ne, Int.toNat_natCast]; first | done | omega))); (case hb => (first | omega | (simp (disch := omega) only [zst_ne, zst_s, zup_eq, zup_ne, Int.toNat_natCast]; first | done | omega))); (case hc => (first | omega | (simp (disch := omega) only [zst_ne, zst_s, zup_eq, zup_ne, Int.toNat_natCast]; first | done | omega)))) | (with_reducible refine zO_brn ?ha ?hb ?hc ?_; (case ha => (first | omega | (simp (disch := omega) only [zst_ne, zst_s, zup_eq, zup_ne, Int.toNat_natCast]; first | done | omega))); (case hb => (first | omega | (simp (disch := omega) only [zst_ne, zst_s, zup_eq, zup_ne, Int.toNat_natCast]; first | done | omega))); (case hc => (first | omega | (simp (disch := omega) only [zst_ne, zst_s, zup_eq, zup_ne, Int.toNat_natCast]; first | done | omega)))) | (with_reducible refine zO_br ?ha ?hb (fun _ => ?_) (fun _ => ?_); (case ha => (first | omega | (simp (disch := omega) only [zst_ne, zst_s, zup_eq, zup_ne, Int.toNat_natCast]; first | done | omega))); (case hb => (first | omega | (simp (disch := omega) only [zst_ne, zst_s, zup_eq, zup_ne, Int.toNat_natCast]; first | done | omega)))) | (with_reducible refine zO_ifp ?hc ?_; case hc => (first | omega | (simp (disch := omega) only [zst_ne, zst_s, zup_eq, zup_ne, Int.toNat_natCast]; first | done | omega))) | (with_reducible refine zO_ifn ?hc ?_; case hc => (first | omega | (simp (disch := omega) only [zst_ne, zst_s, zup_eq, zup_ne, Int.toNat_natCast]; first | done | omega))))
      refine zO_some ?_
      congr 2
      · congr 1
        have es : ∀ t : Nat, t < 3 → sWd (M 28) n (3 * j + t) = if 1 ≤ n % 16 + t ∧ n % 16 + t ≤ 16 ∧ M 28 n < M 28 (n + 16 * j + t - 17) then 1 else 0 := by
          intro t ht
          unfold sWd
          have e1 : (3 * j + t) % 3 = t := by omega
          have e2 : (3 * j + t) / 3 = j := by omega
          rw [e1, e2]
          by_cases h5 : 1 ≤ n % 16 + t ∧ n % 16 + t ≤ 16
          · have e3 : 16 * (n / 16 + j - 1) + (n % 16 + t - 1) = n + 16 * j + t - 17 := by omega
            rw [e3]
            by_cases h6 : M 28 n < M 28 (n + 16 * j + t - 17)
            · rw [if_pos ⟨h5.1, h5.2, by omega, by omega, h6⟩, if_pos ⟨h5.1, h5.2, h6⟩]
            · rw [if_neg (fun h => h6 h.2.2.2.2), if_neg (fun h => h6 h.2.2)]
          · rw [if_neg (fun h => h5 ⟨h.1, h.2.1⟩), if_neg (fun h => h5 ⟨h.1, h.2.1⟩)]
        have es0 := es 0 (by omega)
        rw [Nat.add_zero] at es0
        rw [es0, es 1 (by omega), es 2 (by omega)]
        rcases hw' with rfl | rfl <;> rcases he' with rfl | rfl
        · split at hw <;> split at he <;> omega
        · have : n % 16 = 0 := by split at hw <;> omega
          have hd2 : d = 2 := by omega
          subst hd2
          simp only [zsum]
          rw [show ((n : Int) - 16 + 16 * (j : Int) - 0 + ((0 : Nat) : Int)).toNat = n + 16 * j + 1 - 17 by omega, show ((n : Int) - 16 + 16 * (j : Int) - 0 + ((1 : Nat) : Int)).toNat = n + 16 * j + 2 - 17 by omega, if_neg (fun h : 1 ≤ n % 16 + 0 ∧ _ ∧ _ => by omega)]
          have a1 : (1 ≤ n % 16 + 1 ∧ n % 16 + 1 ≤ 16) := by omega
          have a2 : (1 ≤ n % 16 + 2 ∧ n % 16 + 2 ≤ 16) := by omega
          simp only [a1, a2, true_and]
        · have : n % 16 = 15 := by split at he <;> omega
          have hd2 : d = 2 := by omega
          subst hd2
          simp only [zsum]
          rw [show ((n : Int) - 16 + 16 * (j : Int) - 1 + ((0 : Nat) : Int)).toNat = n + 16 * j + 0 - 17 by omega, show ((n : Int) - 16 + 16 * (j : Int) - 1 + ((1 : Nat) : Int)).toNat = n + 16 * j + 1 - 17 by omega, if_neg (fun h : 1 ≤ n % 16 + 2 ∧ _ ∧ _ => by omega)]
          have a1 : (1 ≤ n % 16 + 1 ∧ n % 16 + 1 ≤ 16) := by omega
          have a2 : (1 ≤ n % 16 + 0 ∧ n % 16 + 0 ≤ 16) := by omega
          simp only [a1, a2, true_and]
          omega
        · have hx : n % 16 ≠ 0 ∧ n % 16 ≠ 15 := by split at hw <;> split at he <;> omega
          have hd2 : d = 3 := by omega
          subst hd2
          simp only [zsum]
          rw [show ((n : Int) - 16 + 16 * (j : Int) - 1 + ((0 : Nat) : Int)).toNat = n + 16 * j + 0 - 17 by omega, show ((n : Int) - 16 + 16 * (j : Int) - 1 + ((1 : Nat) : Int)).toNat = n + 16 * j + 1 - 17 by omega, show ((n : Int) - 16 + 16 * (j : Int) - 1 + ((2 : Nat) : Int)).toNat = n + 16 * j + 2 - 17 by omega]
          have a1 : (1 ≤ n % 16 + 1 ∧ n % 16 + 1 ≤ 16) := by omega
          have a2 : (1 ≤ n % 16 + 0 ∧ n % 16 + 0 ≤ 16) := by omega
          have a3 : (1 ≤ n % 16 + 2 ∧ n % 16 + 2 ≤ 16) := by omega
          simp only [a1, a2, a3, true_and]
          omega
      · omega
    · rw [if_neg hv] at hcell
      repeat' (first | (with_reducible refine zO_b1e hcell ?_) | (with_reducible refine zO_lt ?_) | (with_reducible refine zO_gd ?hc ?_; case hc => (first | omega | (simp (disch := omega) only [zst_ne, zst_s, zup_eq, zup_ne, Int.toNat_natCast]; first | done | omega))) | (with_reducible refine zO_brp ?ha ?hb ?hc ?_; (case ha => (first | omega | (simp (disch := omega) only [zst_ne, zst_s, zup_eq, zup_ne, Int.toNat_natCast]; first | done | omega))); (case hb => (first | omega | (simp (disch := omega) only [zst_ne, zst_s, zup_eq, zup_ne, Int.toNat_natCast]; first | done | omega))); (case hc => (first | omega | (simp (disch := omega) only [zst_ne, zst_s, zup_eq, zup_ne, Int.toNat_natCast]; first | done | omega)))) | (with_reducible refine zO_brn ?ha ?hb ?hc ?_; (case ha => (first | omega | (simp (disch := omega) only [zst_ne, zst_s, zup_eq, zup_ne, Int.toNat_natCast]; first | done | omega))); (case hb => (first | omega | (simp (disch := omega) only [zst_ne, zst_s, zup_eq, zup_ne, Int.toNat_natCast]; first | done | omega))); (case hc => (first | omega | (simp (disch := omega) only [zst_ne, zst_s, zup_eq, zup_ne, Int.toNat_natCast]; first | done | omega)))) | (with_reducible refine zO_br ?ha ?hb (fun _ => ?_) (fun _ => ?_); (case ha => (first | omega | (simp (disch := omega) only [zst_ne, zst_s, zup_eq, zup_ne, Int.toNat_natCast]; first | done | omega))); (case hb => (first | omega | (simp (disch := omega) only [zst_ne, zst_s, zup_eq, zup_ne, Int.toNat_natCast]; first | done | omega)))) | (with_reducible refine zO_ifp ?hc ?_; case hc => (first | omega | (simp (disch := omega) only [zst_ne, zst_s, zup_eq, zup_ne, Int.toNat_natCast]; first | done | omega))) | (with_reducible refine zO_ifn ?hc ?_; case hc => (first | omega | (simp (disch := omega) only [zst_ne, zst_s, zup_eq, zup_ne, Int.toNat_natCast]; first | done | omega))))
      refine zO_some ?_
      have es : ∀ t : Nat, t < 3 → sWd (M 28) n (3 * j + t) = 0 := by
        intro t ht
        unfold sWd
        have e1 : (3 * j + t) % 3 = t := by omega
        have e2 : (3 * j + t) / 3 = j := by omega
        rw [e1, e2, if_neg (fun h => by omega)]
      have es0 := es 0 (by omega)
      rw [Nat.add_zero] at es0
      rw [es0, es 1 (by omega), es 2 (by omega)]
      congr 2
      · omega
      · omega
  have h := zO_up (F := fun t => gb_X2_countHigherRound_45 k n w e (M 28 n) M t.1 t.2) (fun j => (zsum j (fun j => sWd (M 28) n (3 * j) + sWd (M 28) n (3 * j + 1) + sWd (M 28) n (3 * j + 2)), (n : Int) - 16 + 16 * (j : Int))) 3 (t := zsum 3 (fun j => sWd (M 28) n (3 * j) + sWd (M 28) n (3 * j + 1) + sWd (M 28) n (3 * j + 2))) (fun j hj => by
      dsimp only
      rw [key j _ hj, zsum_s]) (by
      apply zO_get
      unfold gb_X2_countHigherRound_45
      dsimp only
      repeat' (first | (with_reducible refine zO_lt ?_) | (with_reducible refine zO_gd ?hc ?_; case hc => (first | omega | (simp (disch := omega) only [zst_ne, zst_s, zup_eq, zup_ne, Int.toNat_natCast]; first | done | omega))) | (with_reducible refine zO_brp ?ha ?hb ?hc ?_; (case ha => (first | omega | (simp (disch := omega) only [zst_ne, zst_s, zup_eq, zup_ne, Int.toNat_natCast]; first | done | omega))); (case hb => (first | omega | (simp (disch := omega) only [zst_ne, zst_s, zup_eq, zup_ne, Int.toNat_natCast]; first | done | omega))); (case hc => (first | omega | (simp (disch := omega) only [zst_ne, zst_s, zup_eq, zup_ne, Int.toNat_natCast]; first | done | omega)))) | (with_reducible refine zO_brn ?ha ?hb ?hc ?_; (case ha => (first | omega | (simp (disch := omega) only [zst_ne, zst_s, zup_eq, zup_ne, Int.toNat_natCast]; first | done | omega))); (case hb => (first | omega | (simp (disch := omega) only [zst_ne, zst_s, zup_eq, zup_ne, Int.toNat_natCast]; first | done | omega))); (case hc => (first | omega | (simp (disch := omega) only [zst_ne, zst_s, zup_eq, zup_ne, Int.toNat_natCast]; first | done | omega)))) | (with_reducible refine zO_br ?ha ?hb (fun _ => ?_) (fun _ => ?_); (case ha => (first | omega | (simp (disch := omega) only [zst_ne, zst_s, zup_eq, zup_ne, Int.toNat_natCast]; first | done | omega))); (case hb => (first | omega | (simp (disch := omega) only [zst_ne, zst_s, zup_eq, zup_ne, Int.toNat_natCast]; first | done | omega)))) | (with_reducible refine zO_ifp ?hc ?_; case hc => (first | omega | (simp (disch := omega) only [zst_ne, zst_s, zup_eq, zup_ne, Int.toNat_natCast]; first | done | omega))) | (with_reducible refine zO_ifn ?hc ?_; case hc => (first | omega | (simp (disch := omega) only [zst_ne, zst_s, zup_eq, zup_ne, Int.toNat_natCast]; first | done | omega))))
      exact zO_some rfl) (by omega) 0 (Nat.zero_le _)
  apply zO_get
  unfold g_X2_countHigherRound
  have w1 : zbr ((n : Int) % 16) 0 (¬ (n : Int) % 16 = 0) (some 1) (some 0) = some w := by
    unfold zbr
    rw [if_pos (by omega)]
    by_cases h5 : n % 16 = 0
    · rw [if_neg (by omega), hw, if_pos h5]
    · rw [if_pos (by omega), hw, if_neg h5]
  have e1 : zbr ((n : Int) % 16) 15 (¬ (n : Int) % 16 = 15) (some 1) (some 0) = some e := by
    unfold zbr
    rw [if_pos (by omega)]
    by_cases h5 : n % 16 = 15
    · rw [if_neg (by omega), he, if_pos h5]
    · rw [if_pos (by omega), he, if_neg h5]
  have hl : zw2 (gb_X2_countHigherRound_45 k n w e (M 28 n) M) zfu 0 ((n : Int) - 16) = some (zsum 3 (fun j => sWd (M 28) n (3 * j) + sWd (M 28) n (3 * j + 1) + sWd (M 28) n (3 * j + 2))) := by
    have h' : zwh (fun t => gb_X2_countHigherRound_45 k n w e (M 28 n) M t.1 t.2) zfu (0, (n : Int) - 16 + 16 * ((0 : Nat) : Int)) = _ := h
    rw [show (n : Int) - 16 + 16 * ((0 : Nat) : Int) = n - 16 by omega] at h'
    exact h'
  rw [w1, e1]
  repeat' (first | (with_reducible refine zO_b1e rfl ?_) | (with_reducible refine zO_lt ?_) | (with_reducible refine zO_gd ?hc ?_; case hc => (first | omega | (simp (disch := omega) only [zst_ne, zst_s, zup_eq, zup_ne, Int.toNat_natCast]; first | done | omega))) | (with_reducible refine zO_brp ?ha ?hb ?hc ?_; (case ha => (first | omega | (simp (disch := omega) only [zst_ne, zst_s, zup_eq, zup_ne, Int.toNat_natCast]; first | done | omega))); (case hb => (first | omega | (simp (disch := omega) only [zst_ne, zst_s, zup_eq, zup_ne, Int.toNat_natCast]; first | done | omega))); (case hc => (first | omega | (simp (disch := omega) only [zst_ne, zst_s, zup_eq, zup_ne, Int.toNat_natCast]; first | done | omega)))) | (with_reducible refine zO_brn ?ha ?hb ?hc ?_; (case ha => (first | omega | (simp (disch := omega) only [zst_ne, zst_s, zup_eq, zup_ne, Int.toNat_natCast]; first | done | omega))); (case hb => (first | omega | (simp (disch := omega) only [zst_ne, zst_s, zup_eq, zup_ne, Int.toNat_natCast]; first | done | omega))); (case hc => (first | omega | (simp (disch := omega) only [zst_ne, zst_s, zup_eq, zup_ne, Int.toNat_natCast]; first | done | omega)))) | (with_reducible refine zO_br ?ha ?hb (fun _ => ?_) (fun _ => ?_); (case ha => (first | omega | (simp (disch := omega) only [zst_ne, zst_s, zup_eq, zup_ne, Int.toNat_natCast]; first | done | omega))); (case hb => (first | omega | (simp (disch := omega) only [zst_ne, zst_s, zup_eq, zup_ne, Int.toNat_natCast]; first | done | omega)))) | (with_reducible refine zO_ifp ?hc ?_; case hc => (first | omega | (simp (disch := omega) only [zst_ne, zst_s, zup_eq, zup_ne, Int.toNat_natCast]; first | done | omega))) | (with_reducible refine zO_ifn ?hc ?_; case hc => (first | omega | (simp (disch := omega) only [zst_ne, zst_s, zup_eq, zup_ne, Int.toNat_natCast]; first | done | omega))))
  simp only [Int.toNat_natCast]
  refine zO_b1e hl (zO_some ?_)
  simp only [sWind, zsum, Nat.reduceMul, Nat.reduceAdd, Nat.mul_zero, Nat.mul_one, Nat.zero_add]
  omega

/-! the class sorts by MIDDLE -/
def zEqv (m : Nat → Int) (n : Nat) (v : Int) : Int := zsum n (fun b => if m b = v then 1 else 0)
def zLtv (m : Nat → Int) (v : Int) : Int := zsum 256 (fun b => if m b < v then 1 else 0)
theorem zLtv_s {m : Nat → Int} {v : Int} : zLtv m (v + 1) = zLtv m v + zEqv m 256 v := by
  unfold zLtv zEqv
  rw [← zsum_add]
  refine zsum_congr (fun b _ => ?_)
  by_cases h : m b < v
  · rw [if_pos (by omega), if_pos h, if_neg (by omega)]; rfl
  · by_cases h2 : m b = v
    · rw [if_pos (by omega), if_neg h, if_pos h2]; rfl
    · rw [if_neg (by omega), if_neg h, if_neg h2]; rfl
theorem zLtv_0 {m : Nat → Int} (hm : zMid m) : zLtv m 0 = 0 := zsum_zero (fun b hb => if_neg (by have := hm b hb; omega))
theorem zEqv_s {m : Nat → Int} {n : Nat} {v : Int} : zEqv m (n + 1) v = zEqv m n v + (if m n = v then 1 else 0) := rfl
theorem sRk_sp {m : Nat → Int} {c : Nat} (hc : c < 256) : sRk m c = zLtv m (m c) + zEqv m c (m c) := by
  unfold sRk zLtv zEqv
  have e : zsum c (fun b => if m b = m c then 1 else 0) = zsum 256 (fun b => if m b = m c ∧ b < c then 1 else 0) := by
    rw [show 256 = c + (256 - c) by omega, zsum_app, zsum_zero (n := 256 - c) (fun j _ => if_neg (by omega)), Int.add_zero]
    exact zsum_congr (fun b hb => by
      by_cases h : m b = m c
      · rw [if_pos h, if_pos ⟨h, hb⟩]
      · rw [if_neg h, if_neg (fun h' => h h'.1)])
  rw [e, ← zsum_add]
  refine zsum_congr (fun b _ => ?_)
  by_cases h : m b < m c
  · rw [if_pos (Or.inl h), if_pos h, if_neg (by omega)]; rfl
  · by_cases h2 : m b = m c ∧ b < c
    · rw [if_pos (Or.inr h2), if_neg h, if_pos h2]; rfl
    · rw [if_neg (by omega), if_neg h, if_neg h2]; rfl
theorem g2_sort {i : Nat} {M : zM} (hm : zMid (M 28)) : zO (g_X2_sortByMiddle (zKn i) M) (fun M' => zFr [33, 34] M M' ∧ ∀ c : Nat, c < 256 → M' 33 (sRk (M 28) c).toNat = (c : Int)) := by
  unfold g_X2_sortByMiddle
  refine zO_b1e (zfill zl_34 (by omega)) ?_
  generalize hA : (fun a b => if a = 34 ∧ b < 200 then (0 : Int) else M a b) = A
  have fA : zFr [33, 34] M A := by
    intro q hq
    rw [← hA]
    funext b
    have : q ≠ 34 := fun e => hq (by rw [e]; decide)
    simp [this]
  have zA : ∀ v, v < 200 → A 34 v = 0 := by
    intro v hv
    rw [← hA]
    simp [hv]
  -- how many of each
  refine zO_b1q (Q := fun M' => zFr [33, 34] M M' ∧ ∀ v : Nat, v < 200 → M' 34 v = zEqv (M 28) 256 ((v : Int) - 1)) ?_ ?_
  · unfold zw2
    refine zO_for (fun s => s.1) 256 (fun j s => zFr [33, 34] M s.2 ∧ ∀ v : Nat, v < 200 → s.2 34 v = zEqv (M 28) j ((v : Int) - 1)) ?_ ?_ (by omega) 0 (by omega) rfl ⟨fA, fun v hv => (zA v hv).trans rfl⟩
    · rintro j ⟨y, M'⟩ hj hc ⟨hf, hI⟩
      simp only at hc hf hI
      subst hc
      have e28 : M' 28 = M 28 := hf 28 (by decide)
      have h28 := hm j hj
      rw [← e28] at h28
      unfold gb_X2_sortByMiddle_10
      dsimp only
      simp only [Int.toNat_natCast]
      repeat' (first | (with_reducible refine zO_lt ?_) | (with_reducible refine zO_gd ?hc ?_; case hc => (first | omega | (simp (disch := omega) only [zst_ne, zst_s, zup_eq, zup_ne, Int.toNat_natCast]; first | done | omega))) | (with_reducible refine zO_brp ?ha ?hb ?hc ?_; (case ha => (first | omega | (simp (disch := omega) only [zst_ne, zst_s, zup_eq, zup_ne, Int.toNat_natCast]; first | done | omega))); (case hb => (first | omega | (simp (disch := omega) only [zst_ne, zst_s, zup_eq, zup_ne, Int.toNat_natCast]; first | done | omega))); (case hc => (first | omega | (simp (disch := omega) only [zst_ne, zst_s, zup_eq, zup_ne, Int.toNat_natCast]; first | done | omega)))) | (with_reducible refine zO_brn ?ha ?hb ?hc ?_; (case ha => (first | omega | (simp (disch := omega) only [zst_ne, zst_s, zup_eq, zup_ne, Int.toNat_natCast]; first | done | omega))); (case hb => (first | omega | (simp (disch := omega) only [zst_ne, zst_s, zup_eq, zup_ne, Int.toNat_natCast]; first | done | omega))); (case hc => (first | omega | (simp (disch := omega) only [zst_ne, zst_s, zup_eq, zup_ne, Int.toNat_natCast]; first | done | omega)))) | (with_reducible refine zO_br ?ha ?hb (fun _ => ?_) (fun _ => ?_); (case ha => (first | omega | (simp (disch := omega) only [zst_ne, zst_s, zup_eq, zup_ne, Int.toNat_natCast]; first | done | omega))); (case hb => (first | omega | (simp (disch := omega) only [zst_ne, zst_s, zup_eq, zup_ne, Int.toNat_natCast]; first | done | omega)))) | (with_reducible refine zO_ifp ?hc ?_; case hc => (first | omega | (simp (disch := omega) only [zst_ne, zst_s, zup_eq, zup_ne, Int.toNat_natCast]; first | done | omega))) | (with_reducible refine zO_ifn ?hc ?_; case hc => (first | omega | (simp (disch := omega) only [zst_ne, zst_s, zup_eq, zup_ne, Int.toNat_natCast]; first | done | omega))))
      refine zO_inl ⟨by omega, ?_, ?_⟩
      · exact hf.st (by decide)
      · intro v hv
        show zst M' 34 (M' 28 j + 1).toNat (M' 34 (M' 28 j + 1).toNat + 1) 34 v = _
        rw [zst_r, zEqv_s, ← hI v hv, ← e28]
        by_cases h : v = (M' 28 j + 1).toNat
        · rw [if_pos ⟨rfl, h⟩, if_pos (by omega), h]
        · rw [if_neg (fun h' => h h'.2), if_neg (by omega)]; omega
    · rintro ⟨y, M'⟩ hc hI
      simp only at hc
      subst hc
      unfold gb_X2_sortByMiddle_10
      dsimp only
      repeat' (first | (with_reducible refine zO_lt ?_) | (with_reducible refine zO_gd ?hc ?_; case hc => (first | omega | (simp (disch := omega) only [zst_ne, zst_s, zup_eq, zup_ne, Int.toNat_natCast]; first | done | omega))) | (with_reducible refine zO_brp ?ha ?hb ?hc ?_; (case ha => (first | omega | (simp (disch := omega) only [zst_ne, zst_s, zup_eq, zup_ne, Int.toNat_natCast]; first | done | omega))); (case hb => (first | omega | (simp (disch := omega) only [zst_ne, zst_s, zup_eq, zup_ne, Int.toNat_natCast]; first | done | omega))); (case hc => (first | omega | (simp (disch := omega) only [zst_ne, zst_s, zup_eq, zup_ne, Int.toNat_natCast]; first | done | omega)))) | (with_reducible refine zO_brn ?ha ?hb ?hc ?_; (case ha => (first | omega | (simp (disch := omega) only [zst_ne, zst_s, zup_eq, zup_ne, Int.toNat_natCast]; first | done | omega))); (case hb => (first | omega | (simp (disch := omega) only [zst_ne, zst_s, zup_eq, zup_ne, Int.toNat_natCast]; first | done | omega))); (case hc => (first | omega | (simp (disch := omega) only [zst_ne, zst_s, zup_eq, zup_ne, Int.toNat_natCast]; first | done | omega)))) | (with_reducible refine zO_br ?ha ?hb (fun _ => ?_) (fun _ => ?_); (case ha => (first | omega | (simp (disch := omega) only [zst_ne, zst_s, zup_eq, zup_ne, Int.toNat_natCast]; first | done | omega))); (case hb => (first | omega | (simp (disch := omega) only [zst_ne, zst_s, zup_eq, zup_ne, Int.toNat_natCast]; first | done | omega)))) | (with_reducible refine zO_ifp ?hc ?_; case hc => (first | omega | (simp (disch := omega) only [zst_ne, zst_s, zup_eq, zup_ne, Int.toNat_natCast]; first | done | omega))) | (with_reducible refine zO_ifn ?hc ?_; case hc => (first | omega | (simp (disch := omega) only [zst_ne, zst_s, zup_eq, zup_ne, Int.toNat_natCast]; first | done | omega))))
      exact zO_inr hI
  rintro A1 ⟨f1, h1⟩
  -- how many are below
  refine zO_b1q (Q := fun M' => zFr [33, 34] M M' ∧ ∀ v : Nat, v < 200 → M' 34 v = zLtv (M 28) v) ?_ ?_
  · unfold zw2
    refine zO_for (fun s => s.1) 199 (fun j s => zFr [33, 34] M s.2 ∧ (∀ v : Nat, v ≤ j → s.2 34 v = zLtv (M 28) v) ∧ ∀ v : Nat, j < v → v < 200 → s.2 34 v = zEqv (M 28) 256 ((v : Int) - 1)) ?_ ?_ (by omega) 0 (by omega) rfl ⟨f1, ?_, fun v _ hv => h1 v hv⟩
    · rintro j ⟨y, M'⟩ hj hc ⟨hf, hI, hI'⟩
      simp only at hc hf hI hI'
      subst hc
      unfold gb_X2_sortByMiddle_42
      dsimp only
      rw [show ((j : Int) + 1).toNat = j + 1 by omega, Int.toNat_natCast]
      repeat' (first | (with_reducible refine zO_lt ?_) | (with_reducible refine zO_gd ?hc ?_; case hc => (first | omega | (simp (disch := omega) only [zst_ne, zst_s, zup_eq, zup_ne, Int.toNat_natCast]; first | done | omega))) | (with_reducible refine zO_brp ?ha ?hb ?hc ?_; (case ha => (first | omega | (simp (disch := omega) only [zst_ne, zst_s, zup_eq, zup_ne, Int.toNat_natCast]; first | done | omega))); (case hb => (first | omega | (simp (disch := omega) only [zst_ne, zst_s, zup_eq, zup_ne, Int.toNat_natCast]; first | done | omega))); (case hc => (first | omega | (simp (disch := omega) only [zst_ne, zst_s, zup_eq, zup_ne, Int.toNat_natCast]; first | done | omega)))) | (with_reducible refine zO_brn ?ha ?hb ?hc ?_; (case ha => (first | omega | (simp (disch := omega) only [zst_ne, zst_s, zup_eq, zup_ne, Int.toNat_natCast]; first | done | omega))); (case hb => (first | omega | (simp (disch := omega) only [zst_ne, zst_s, zup_eq, zup_ne, Int.toNat_natCast]; first | done | omega))); (case hc => (first | omega | (simp (disch := omega) only [zst_ne, zst_s, zup_eq, zup_ne, Int.toNat_natCast]; first | done | omega)))) | (with_reducible refine zO_br ?ha ?hb (fun _ => ?_) (fun _ => ?_); (case ha => (first | omega | (simp (disch := omega) only [zst_ne, zst_s, zup_eq, zup_ne, Int.toNat_natCast]; first | done | omega))); (case hb => (first | omega | (simp (disch := omega) only [zst_ne, zst_s, zup_eq, zup_ne, Int.toNat_natCast]; first | done | omega)))) | (with_reducible refine zO_ifp ?hc ?_; case hc => (first | omega | (simp (disch := omega) only [zst_ne, zst_s, zup_eq, zup_ne, Int.toNat_natCast]; first | done | omega))) | (with_reducible refine zO_ifn ?hc ?_; case hc => (first | omega | (simp (disch := omega) only [zst_ne, zst_s, zup_eq, zup_ne, Int.toNat_natCast]; first | done | omega))))
      refine zO_inl ⟨by omega, hf.st (by decide), ?_, ?_⟩
      · intro v hv
        show zst M' 34 (j + 1) (M' 34 (j + 1) + M' 34 j) 34 v = _
        rw [zst_r]
        by_cases h : v = j + 1
        · rw [if_pos ⟨rfl, h⟩, h, hI j (Nat.le_refl j), hI' (j + 1) (by omega) (by omega), show ((j + 1 : Nat) : Int) = (j : Int) + 1 by omega, zLtv_s, show (j : Int) + 1 - 1 = j by omega]
          omega
        · rw [if_neg (fun h' => h h'.2)]
          exact hI v (by omega)
      · intro v hv hv'
        show zst M' 34 (j + 1) (M' 34 (j + 1) + M' 34 j) 34 v = _
        rw [zst_r, if_neg (by omega)]
        exact hI' v (by omega) hv'
    · rintro ⟨y, M'⟩ hc hI
      simp only at hc
      subst hc
      unfold gb_X2_sortByMiddle_42
      dsimp only
      repeat' (first | (with_reducible refine zO_lt ?_) | (with_reducible refine zO_gd ?hc ?_; case hc => (first | omega | (simp (disch := omega) only [zst_ne, zst_s, zup_eq, zup_ne, Int.toNat_natCast]; first | done | omega))) | (with_reducible refine zO_brp ?ha ?hb ?hc ?_; (case ha => (first | omega | (simp (disch := omega) only [zst_ne, zst_s, zup_eq, zup_ne, Int.toNat_natCast]; first | done | omega))); (case hb => (first | omega | (simp (disch := omega) only [zst_ne, zst_s, zup_eq, zup_ne, Int.toNat_natCast]; first | done | omega))); (case hc => (first | omega | (simp (disch := omega) only [zst_ne, zst_s, zup_eq, zup_ne, Int.toNat_natCast]; first | done | omega)))) | (with_reducible refine zO_brn ?ha ?hb ?hc ?_; (case ha => (first | omega | (simp (disch := omega) only [zst_ne, zst_s, zup_eq, zup_ne, Int.toNat_natCast]; first | done | omega))); (case hb => (first | omega | (simp (disch := omega) only [zst_ne, zst_s, zup_eq, zup_ne, Int.toNat_natCast]; first | done | omega))); (case hc => (first | omega | (simp (disch := omega) only [zst_ne, zst_s, zup_eq, zup_ne, Int.toNat_natCast]; first | done | omega)))) | (with_reducible refine zO_br ?ha ?hb (fun _ => ?_) (fun _ => ?_); (case ha => (first | omega | (simp (disch := omega) only [zst_ne, zst_s, zup_eq, zup_ne, Int.toNat_natCast]; first | done | omega))); (case hb => (first | omega | (simp (disch := omega) only [zst_ne, zst_s, zup_eq, zup_ne, Int.toNat_natCast]; first | done | omega)))) | (with_reducible refine zO_ifp ?hc ?_; case hc => (first | omega | (simp (disch := omega) only [zst_ne, zst_s, zup_eq, zup_ne, Int.toNat_natCast]; first | done | omega))) | (with_reducible refine zO_ifn ?hc ?_; case hc => (first | omega | (simp (disch := omega) only [zst_ne, zst_s, zup_eq, zup_ne, Int.toNat_natCast]; first | done | omega))))
      exact zO_inr ⟨hI.1, fun v hv => hI.2.1 v (by omega)⟩
    · intro v hv
      have : v = 0 := by omega
      subst this
      show A1 34 0 = zLtv (M 28) ((0 : Nat) : Int)
      rw [h1 0 (by omega), show ((0 : Nat) : Int) = 0 from rfl, zLtv_0 hm]
      exact zsum_zero (fun b hb => if_neg (by have := hm b hb; omega))
  rintro A2 ⟨f2, h2⟩
  -- into their places
  refine zO_b1 ?_
  unfold zw2
  refine zO_for (fun s => s.1) 256 (fun j s => zFr [33, 34] M s.2 ∧ (∀ v : Nat, v < 200 → s.2 34 v = zLtv (M 28) v + zEqv (M 28) j v) ∧ ∀ c : Nat, c < j → s.2 33 (sRk (M 28) c).toNat = (c : Int)) ?_ ?_ (by omega) 0 (by omega) rfl ⟨f2, fun v hv => (h2 v hv).trans (by simp [zEqv, zsum]), fun c hc => by omega⟩
  · rintro j ⟨y, M'⟩ hj hc ⟨hf, hI, hI'⟩
    simp only at hc hf hI hI'
    subst hc
    have e28 : M' 28 = M 28 := hf 28 (by decide)
    have h28 := hm j hj
    have hp : M' 34 (M 28 j).toNat = sRk (M 28) j := by
      rw [hI _ (by omega), sRk_sp hj, show (((M 28 j).toNat : Nat) : Int) = M 28 j by omega]
    have hr := sRk_r (m := M 28) hj
    rw [← e28] at h28
    have hp' : M' 34 (M' 28 j).toNat = sRk (M 28) j := by rw [e28]; exact hp
    unfold gb_X2_sortByMiddle_74
    dsimp only
    simp only [Int.toNat_natCast]
    repeat' (first | (with_reducible refine zO_lt ?_) | (with_reducible refine zO_gd ?hc ?_; case hc => (first | omega | (simp (disch := omega) only [zst_ne, zst_s, zup_eq, zup_ne, Int.toNat_natCast]; first | done | omega))) | (with_reducible refine zO_brp ?ha ?hb ?hc ?_; (case ha => (first | omega | (simp (disch := omega) only [zst_ne, zst_s, zup_eq, zup_ne, Int.toNat_natCast]; first | done | omega))); (case hb => (first | omega | (simp (disch := omega) only [zst_ne, zst_s, zup_eq, zup_ne, Int.toNat_natCast]; first | done | omega))); (case hc => (first | omega | (simp (disch := omega) only [zst_ne, zst_s, zup_eq, zup_ne, Int.toNat_natCast]; first | done | omega)))) | (with_reducible refine zO_brn ?ha ?hb ?hc ?_; (case ha => (first | omega | (simp (disch := omega) only [zst_ne, zst_s, zup_eq, zup_ne, Int.toNat_natCast]; first | done | omega))); (case hb => (first | omega | (simp (disch := omega) only [zst_ne, zst_s, zup_eq, zup_ne, Int.toNat_natCast]; first | done | omega))); (case hc => (first | omega | (simp (disch := omega) only [zst_ne, zst_s, zup_eq, zup_ne, Int.toNat_natCast]; first | done | omega)))) | (with_reducible refine zO_br ?ha ?hb (fun _ => ?_) (fun _ => ?_); (case ha => (first | omega | (simp (disch := omega) only [zst_ne, zst_s, zup_eq, zup_ne, Int.toNat_natCast]; first | done | omega))); (case hb => (first | omega | (simp (disch := omega) only [zst_ne, zst_s, zup_eq, zup_ne, Int.toNat_natCast]; first | done | omega)))) | (with_reducible refine zO_ifp ?hc ?_; case hc => (first | omega | (simp (disch := omega) only [zst_ne, zst_s, zup_eq, zup_ne, Int.toNat_natCast]; first | done | omega))) | (with_reducible refine zO_ifn ?hc ?_; case hc => (first | omega | (simp (disch := omega) only [zst_ne, zst_s, zup_eq, zup_ne, Int.toNat_natCast]; first | done | omega))))
    simp (disch := omega) only [zst_ne]
    refine zO_inl ⟨by omega, (hf.st (by decide)).st (by decide), ?_, ?_⟩
    · intro v hv
      show zst (zst M' 33 _ _) 34 (M' 28 j).toNat (M' 34 (M' 28 j).toNat + 1) 34 v = _
      rw [zst_r]
      by_cases h : v = (M' 28 j).toNat
      · rw [if_pos ⟨rfl, h⟩, hI _ (by omega), h, zEqv_s, ← e28, if_pos (by omega)]
        omega
      · rw [if_neg (fun h' => h h'.2), zst_ne (by decide), hI v hv, zEqv_s, ← e28, if_neg (by omega)]
        omega
    · intro c hc
      dsimp only
      rw [zst_ne (by decide), zst_r, hp']
      by_cases h : c = j
      · subst h; rw [if_pos ⟨rfl, rfl⟩]
      · have hc' := sRk_r (m := M 28) (c := c) (by omega)
        rw [if_neg (fun h' => h (sRk_inj (m := M 28) (by omega) hj (by omega)))]
        exact hI' c (by omega)
  · rintro ⟨y, M'⟩ hc hI
    simp only at hc
    subst hc
    unfold gb_X2_sortByMiddle_74
    dsimp only
    repeat' (first | (with_reducible refine zO_lt ?_) | (with_reducible refine zO_gd ?hc ?_; case hc => (first | omega | (simp (disch := omega) only [zst_ne, zst_s, zup_eq, zup_ne, Int.toNat_natCast]; first | done | omega))) | (with_reducible refine zO_brp ?ha ?hb ?hc ?_; (case ha => (first | omega | (simp (disch := omega) only [zst_ne, zst_s, zup_eq, zup_ne, Int.toNat_natCast]; first | done | omega))); (case hb => (first | omega | (simp (disch := omega) only [zst_ne, zst_s, zup_eq, zup_ne, Int.toNat_natCast]; first | done | omega))); (case hc => (first | omega | (simp (disch := omega) only [zst_ne, zst_s, zup_eq, zup_ne, Int.toNat_natCast]; first | done | omega)))) | (with_reducible refine zO_brn ?ha ?hb ?hc ?_; (case ha => (first | omega | (simp (disch := omega) only [zst_ne, zst_s, zup_eq, zup_ne, Int.toNat_natCast]; first | done | omega))); (case hb => (first | omega | (simp (disch := omega) only [zst_ne, zst_s, zup_eq, zup_ne, Int.toNat_natCast]; first | done | omega))); (case hc => (first | omega | (simp (disch := omega) only [zst_ne, zst_s, zup_eq, zup_ne, Int.toNat_natCast]; first | done | omega)))) | (with_reducible refine zO_br ?ha ?hb (fun _ => ?_) (fun _ => ?_); (case ha => (first | omega | (simp (disch := omega) only [zst_ne, zst_s, zup_eq, zup_ne, Int.toNat_natCast]; first | done | omega))); (case hb => (first | omega | (simp (disch := omega) only [zst_ne, zst_s, zup_eq, zup_ne, Int.toNat_natCast]; first | done | omega)))) | (with_reducible refine zO_ifp ?hc ?_; case hc => (first | omega | (simp (disch := omega) only [zst_ne, zst_s, zup_eq, zup_ne, Int.toNat_natCast]; first | done | omega))) | (with_reducible refine zO_ifn ?hc ?_; case hc => (first | omega | (simp (disch := omega) only [zst_ne, zst_s, zup_eq, zup_ne, Int.toNat_natCast]; first | done | omega))))
    exact zO_inr (zO_some ⟨hI.1, hI.2.2⟩)

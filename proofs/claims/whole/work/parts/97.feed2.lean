theorem zo_i2b_r {a : Int} : -128 ≤ zo_i2b a ∧ zo_i2b a ≤ 127 := by
  unfold zo_i2b
  rw [Int8.toInt_toInt32]
  generalize (Int32.ofInt a).toInt8 = x
  have h1 := Int8.le_toInt x
  have h2 := Int8.toInt_lt x
  omega
def sAr (p1 p2 p3 p4 p5 : Int) (j : Nat) : Int := if 4 ≤ j then (if 8 ≤ j then (if 12 ≤ j then (if 16 ≤ j then p5 else p4) else p3) else p2) else p1
def sBm (p1 p2 p3 p4 p5 : Int) (j : Nat) : Int := zo_i2b (zo_i2b (zo_shr (sAr p1 p2 p3 p4 p5 j) ((24 - 8 * (j % 4) : Nat) : Int)))
def sByt (p1 p2 p3 p4 p5 : Int) (j : Nat) : Int := sBt (sAr p1 p2 p3 p4 p5 j) (j % 4)
theorem sByt_m {p1 p2 p3 p4 p5 : Int} {j : Nat} : sByt p1 p2 p3 p4 p5 j = sBm p1 p2 p3 p4 p5 j % 256 := by
  unfold sByt sBm sBt
  exact z_byte (by omega)
theorem g11_feeds {k : zK} {p1 p2 p3 p4 p5 : Int} {M : zM} {n : Nat} (hn : M 76 34 = (n : Int)) (hn' : n + 20 ≤ 700) : zw2 (gb_X11_feed_18 k p1 p2 p3 p4 p5) zfu 0 M = some (zTp 108 76 34 n (sBm p1 p2 p3 p4 p5) M 20) := by
  unfold zw2
  refine zO_up (F := fun t => gb_X11_feed_18 k p1 p2 p3 p4 p5 t.1 t.2) (fun j => ((j : Int), zTp 108 76 34 n (sBm p1 p2 p3 p4 p5) M j)) 20 ?_ ?_ (by omega) 0 (by omega)
  · intro j hj
    have e := zTp_n (q := 108) (w := sBm p1 p2 p3 p4 p5) (j := j) hn
    apply zO_get
    dsimp only
    rw [gb_X11_feed_18]
    generalize hB : zTp 108 76 34 n (sBm p1 p2 p3 p4 p5) M j = B at *
    have ha : zbr (j : Int) 4 (4 ≤ (j : Int)) (zbr (j : Int) 8 (8 ≤ (j : Int)) (zbr (j : Int) 12 (12 ≤ (j : Int)) (zbr (j : Int) 16 (16 ≤ (j : Int)) (some p5) (some p4)) (some p3)) (some p2)) (some p1) = some (sAr p1 p2 p3 p4 p5 j) := by
      apply zO_get
      unfold sAr
      by_cases h1 : 4 ≤ j
      · rw [if_pos h1]
        refine zO_brp ⟨by omega, by omega⟩ ⟨by omega, by omega⟩ (by omega) ?_
        by_cases h2 : 8 ≤ j
        · rw [if_pos h2]
          refine zO_brp ⟨by omega, by omega⟩ ⟨by omega, by omega⟩ (by omega) ?_
          by_cases h3 : 12 ≤ j
          · rw [if_pos h3]
            refine zO_brp ⟨by omega, by omega⟩ ⟨by omega, by omega⟩ (by omega) ?_
            by_cases h4 : 16 ≤ j
            · rw [if_pos h4]
              exact zO_brp ⟨by omega, by omega⟩ ⟨by omega, by omega⟩ (by omega) (zO_some rfl)
            · rw [if_neg h4]
              exact zO_brn ⟨by omega, by omega⟩ ⟨by omega, by omega⟩ (by omega) (zO_some rfl)
          · rw [if_neg h3]
            exact zO_brn ⟨by omega, by omega⟩ ⟨by omega, by omega⟩ (by omega) (zO_some rfl)
        · rw [if_neg h2]
          exact zO_brn ⟨by omega, by omega⟩ ⟨by omega, by omega⟩ (by omega) (zO_some rfl)
      · rw [if_neg h1]
        exact zO_brn ⟨by omega, by omega⟩ ⟨by omega, by omega⟩ (by omega) (zO_some rfl)
    refine zO_brn ⟨by omega, by omega⟩ ⟨by omega, by omega⟩ (by omega) (zO_b1e ha (zO_gd (by omega) (zO_gd (by omega) (zO_lt (zO_lt (zO_lt (zO_some ?_)))))))
    rw [zTp_s, hB, e, show ((n : Int) + (j : Int)).toNat = n + j by omega, zst_ne (by decide), e]
    unfold sBm
    rw [show (24 : Int) - 8 * ((j : Int) % 4) = ((24 - 8 * (j % 4) : Nat) : Int) by omega, show (j : Int) + 1 = ((j + 1 : Nat) : Int) by omega, show (n : Int) + (j : Int) + 1 = (n : Int) + ((j + 1 : Nat) : Int) by omega]
  · apply zO_get
    dsimp only
    rw [gb_X11_feed_18]
    exact zO_brp ⟨by omega, by omega⟩ ⟨by omega, by omega⟩ (by omega) (zO_some rfl)
theorem p_feed {i L : Nat} {M : zM} {E : zE} {p1 p2 p3 p4 p5 : Int} (hI : zInv i L M E) : zP2 i L E (g_X10_feed (zKn i) p1 p2 p3 p4 p5) (g_X11_feed (zKn i) p1 p2 p3 p4 p5) M := by
  obtain ⟨n, n1, n2, n3⟩ : ∃ n : Nat, M 2 1 = n ∧ M 76 34 = n ∧ n ≤ 700 := by
    have := hI.1.2.2.2.2.2.2.2.2.1
    exact ⟨(M 2 1).toNat, by omega, by omega, by omega⟩
  unfold zP2 g_X10_feed g_X11_feed
  by_cases hc : n + 20 ≤ 700
  · refine zO_brp ⟨by omega, by omega⟩ ⟨by omega, by omega⟩ (by omega) ?_
    have cn : ∀ {M : zM} {n : Nat} {w : Nat → Int}, M 2 1 = (n : Int) → zTp 3 2 1 n w M 4 2 1 = ((n + 4 : Nat) : Int) := fun {M n w} h => by rw [zTp_n h]; omega
    refine zO_b1e (g6_put n1 (by omega)) ?_
    refine zO_b1e (g6_put (cn n1) (by omega)) ?_
    refine zO_b1e (g6_put (cn (cn n1)) (by omega)) ?_
    refine zO_b1e (g6_put (cn (cn (cn n1))) (by omega)) ?_
    refine zO_b1e (g6_put (cn (cn (cn (cn n1)))) (by omega)) ?_
    refine zO_some ?_
    dsimp only
    have hA : zTp 3 2 1 (n + 4 + 4 + 4 + 4) (sBt p5) (zTp 3 2 1 (n + 4 + 4 + 4) (sBt p4) (zTp 3 2 1 (n + 4 + 4) (sBt p3) (zTp 3 2 1 (n + 4) (sBt p2) (zTp 3 2 1 n (sBt p1) M 4) 4) 4) 4) 4 = zTp 3 2 1 n (sByt p1 p2 p3 p4 p5) M 20 := by
      rw [show n + 4 + 4 + 4 + 4 = n + 16 by omega, show n + 4 + 4 + 4 = n + 12 by omega, show n + 4 + 4 = n + 8 by omega]
      have s1 := zTp_add (q := 3) (a := 2) (b := 1) (n := n) (w := sByt p1 p2 p3 p4 p5) (M := M) (j := 16) 4
      have s2 := zTp_add (q := 3) (a := 2) (b := 1) (n := n) (w := sByt p1 p2 p3 p4 p5) (M := M) (j := 12) 4
      have s3 := zTp_add (q := 3) (a := 2) (b := 1) (n := n) (w := sByt p1 p2 p3 p4 p5) (M := M) (j := 8) 4
      have s4 := zTp_add (q := 3) (a := 2) (b := 1) (n := n) (w := sByt p1 p2 p3 p4 p5) (M := M) (j := 4) 4
      rw [zTp_congr (w' := sBt p5) 4 (fun x hx => by unfold sByt sAr; rw [if_pos (by omega), if_pos (by omega), if_pos (by omega), if_pos (by omega), show (16 + x) % 4 = x by omega])] at s1
      rw [zTp_congr (w' := sBt p4) 4 (fun x hx => by unfold sByt sAr; rw [if_pos (by omega), if_pos (by omega), if_pos (by omega), if_neg (by omega), show (12 + x) % 4 = x by omega])] at s2
      rw [zTp_congr (w' := sBt p3) 4 (fun x hx => by unfold sByt sAr; rw [if_pos (by omega), if_pos (by omega), if_neg (by omega), show (8 + x) % 4 = x by omega])] at s3
      rw [zTp_congr (w' := sBt p2) 4 (fun x hx => by unfold sByt sAr; rw [if_pos (by omega), if_neg (by omega), show (4 + x) % 4 = x by omega])] at s4
      have s5 : zTp 3 2 1 n (sByt p1 p2 p3 p4 p5) M 4 = zTp 3 2 1 n (sBt p1) M 4 := zTp_congr (w' := sBt p1) 4 (fun x hx => by unfold sByt sAr; rw [if_neg (by omega), show x % 4 = x by omega])
      exact (s1.trans (by rw [show 16 = 12 + 4 from rfl, s2, show 12 = 8 + 4 from rfl, s3, show 8 = 4 + 4 from rfl, s4, s5])).symm
    rw [hA]
    have hsx : ∀ x, sByt p1 p2 p3 p4 p5 x = sBm p1 p2 p3 p4 p5 x % 256 := fun x => sByt_m
    have hmr : ∀ x, -128 ≤ sBm p1 p2 p3 p4 p5 x ∧ sBm p1 p2 p3 p4 p5 x ≤ 127 := fun x => zo_i2b_r
    have r1 : zTp 3 2 1 n (sByt p1 p2 p3 p4 p5) M 20 76 34 = (n : Int) := by rw [zTp_fr (by decide) (by decide)]; exact n2
    have r2 := g11_feeds (k := zKn i) (p1 := p1) (p2 := p2) (p3 := p3) (p4 := p4) (p5 := p5) r1 hc
    refine zO_brp ⟨by omega, by omega⟩ ⟨by omega, by omega⟩ (by omega) (zO_b1e r2 (zO_some ⟨?_, ?_⟩))
    · dsimp only
      rw [zTp_n r1, zTp_n n1]
    · dsimp only
      generalize sByt p1 p2 p3 p4 p5 = W at *
      generalize sBm p1 p2 p3 p4 p5 = V at *
      have f : ∀ q, q ≠ 2 → q ≠ 3 → q ≠ 76 → q ≠ 108 → zTp 108 76 34 n V (zTp 3 2 1 n W M 20) 20 q = M q := fun q a b c d => by rw [zTp_fr d c, zTp_fr b a]
      have f76 : ∀ x, x ≠ 34 → zTp 108 76 34 n V (zTp 3 2 1 n W M 20) 20 76 x = M 76 x := fun x hx => by rw [zTp_a (by decide) hx, zTp_fr (by decide) (by decide)]
      have f3 : ∀ x, zTp 108 76 34 n V (zTp 3 2 1 n W M 20) 20 3 x = if n ≤ x ∧ x < n + 20 then W (x - n) else M 3 x := fun x => by rw [zTp_fr (by decide) (by decide), zTp_q (by decide)]
      have f108 : ∀ x, zTp 108 76 34 n V (zTp 3 2 1 n W M 20) 20 108 x = if n ≤ x ∧ x < n + 20 then V (x - n) else M 108 x := fun x => by rw [zTp_q (by decide), zTp_fr (by decide) (by decide)]
      have f21 : zTp 108 76 34 n V (zTp 3 2 1 n W M 20) 20 2 1 = (n : Int) + 20 := by rw [zTp_fr (by decide) (by decide), zTp_n n1]; rfl
      have f34 : zTp 108 76 34 n V (zTp 3 2 1 n W M 20) 20 76 34 = (n : Int) + 20 := by rw [zTp_n r1]; rfl
      generalize zTp 108 76 34 n V (zTp 3 2 1 n W M 20) 20 = B at *
      obtain ⟨⟨t1, t2, t3, a1, a2, a3, a4, a5, a6, a7, a8⟩, b1, b2⟩ := hI
      refine ⟨⟨t1, t2.fr (fun q x y => f q (by omega) (by omega) (by omega) (by omega)) (fun q x y => f q (by omega) (by omega) (by omega) (by omega)) (by rw [f 1 (by decide) (by decide) (by decide) (by decide)]) (by rw [f 1 (by decide) (by decide) (by decide) (by decide)]), t3.fr (fun q x y => f q (by omega) (by omega) (by omega) (by omega)) (fun q x y => f q (by omega) (by omega) (by omega) (by omega)), ⟨a1.1, fun j x y => by rw [f 20 (by omega) (by omega) (by omega) (by omega)]; exact a1.2 j x y⟩, by rw [f 1 (by decide) (by decide) (by decide) (by decide)]; exact a2, by rw [f76 20 (by decide)]; exact a3, ?_, ?_, ⟨by rw [f21, f34], by omega, by omega⟩, ?_, by rw [f 1 (by decide) (by decide) (by decide) (by decide), f76 35 (by decide)]; exact a8⟩, b1.fr (by rw [f 1 (by decide) (by decide) (by decide) (by decide)]) (fun q hq => f q (by omega) (by omega) (by omega) (by omega)), b2.fr (f 46 (by decide) (by decide) (by decide) (by decide)) (f 47 (by decide) (by decide) (by decide) (by decide)) (by rw [f 4 (by decide) (by decide) (by decide) (by decide)]) (fun q hq => f q (by omega) (by omega) (by omega) (by omega))⟩
      · intro j hj
        rw [f 20 (by decide) (by decide) (by decide) (by decide)]
        exact ⟨(a4 j hj).1, (a4 j hj).2.fr (fun q x y => f q (by omega) (by omega) (by omega) (by omega)) (fun q x y => f q (by omega) (by omega) (by omega) (by omega))⟩
      · intro r hr
        rw [f 51 (by decide) (by decide) (by decide) (by decide), f 77 (by decide) (by decide) (by decide) (by decide)]
        exact a5 r hr
      · intro j hj
        rw [f3, f108]
        by_cases hx : n ≤ j ∧ j < n + 20
        · rw [if_pos hx, if_pos hx]
          exact ⟨hsx _, hmr _⟩
        · rw [if_neg hx, if_neg hx]
          exact a7 j hj
  · refine zO_brn ⟨by omega, by omega⟩ ⟨by omega, by omega⟩ (by omega) (zO_some ?_)
    dsimp only
    exact zO_brn ⟨by omega, by omega⟩ ⟨by omega, by omega⟩ (by omega) (zO_some ⟨rfl, hI⟩)

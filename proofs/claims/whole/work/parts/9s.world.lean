/-! world -/
theorem zus {a : Int} : 0 ≤ zo_lushr a 33 ∧ zo_lushr a 33 ≤ 9223372036854775807 := by
  have e : ((Int32.ofInt 33).toInt64.toUInt64 &&& Int64.toUInt64 63).toBitVec.toNat % 64 = 33 := by decide
  have h : ((Int64.ofInt a).toUInt64 >>> ((Int32.ofInt 33).toInt64.toUInt64 &&& Int64.toUInt64 63)).toBitVec.toNat < 2147483648 := by
    show ((Int64.ofInt a).toUInt64 >>> ((Int32.ofInt 33).toInt64.toUInt64 &&& Int64.toUInt64 63)).toNat < 2147483648
    rw [UInt64.toNat_shiftRight]
    have : ((Int32.ofInt 33).toInt64.toUInt64 &&& Int64.toUInt64 63).toNat % 64 = 33 := by decide
    rw [this, Nat.shiftRight_eq_div_pow]
    have := (Int64.ofInt a).toUInt64.toNat_lt
    omega
  have k : zo_lushr a 33 = (((Int64.ofInt a).toUInt64 >>> ((Int32.ofInt 33).toInt64.toUInt64 &&& Int64.toUInt64 63)).toBitVec.toNat : Int) := wl_int rfl (by omega)
  rw [k]
  omega
/-- a draw's state and its answer -/
def sDr (z : Int) : Int := z * 6364136223846793005 + 1442695040888963407
def sDv (z n : Int) : Int := zo_lushr (sDr z) 33 % n
theorem sDv_r {z n : Int} (h : 0 < n) : 0 ≤ sDv z n ∧ sDv z n < n := ⟨Int.emod_nonneg _ (by omega), Int.emod_lt_of_pos _ h⟩
theorem f0_next {k : zK} {r : Nat} {p : Int} {M : zM} (h : 0 < p ∧ p ≤ 2147483647) : f_X0_next k r p M = some (zst M r 0 (sDr (M r 0)), sDv (M r 0) p) := by
  apply zO_get
  unfold f_X0_next
  have hz := zus (a := sDr (M r 0))
  refine zO_lt (zO_brn (by omega) (by omega) (by omega) ?_)
  rw [zst_eq]
  exact zO_gd (by omega) (zO_gd ⟨hz, by omega, by omega⟩ (zO_some rfl))
theorem g11_draw {k : zK} {p : Int} {M : zM} (h : 0 < p ∧ p ≤ 2147483647) : g_X11_draw k p M = some (zst M 76 70 (sDr (M 76 70)), sDv (M 76 70) p) := by
  apply zO_get
  unfold g_X11_draw
  have hz := zus (a := sDr (M 76 70))
  refine zO_lt ?_
  rw [zst_eq]
  exact zO_gd (by omega) (zO_gd ⟨hz, by omega, by omega⟩ (zO_some rfl))
/-- the states one after another -/
def sZ (z : Int) : Nat → Int
  | 0 => z
  | n + 1 => sDr (sZ z n)
/-- is a CAMP KEPT in the CELL -/
def sKp (T lo hi keep z : Int) : Nat → Int
  | 0 => 0
  | n + 1 => if sKp T lo hi keep z n = 1 ∨ ((lo ≤ sDv (sZ z (2 * n)) T ∧ sDv (sZ z (2 * n)) T < hi) ∧ sDv (sZ z (2 * n + 1)) 100 < keep) then 1 else 0
def sHi (cat kept z : Int) : Nat → Int
  | 0 => 0
  | n + 1 => sHi cat kept z n + if sDv (sZ z n) 10 < cat ∧ kept = 1 then 1 else 0
theorem sKp_01 {T lo hi keep z : Int} {n : Nat} : sKp T lo hi keep z n = 0 ∨ sKp T lo hi keep z n = 1 := by
  cases n with
  | zero => exact Or.inl rfl
  | succ n => unfold sKp; split <;> omega
theorem sHi_r {cat kept z : Int} {n : Nat} : 0 ≤ sHi cat kept z n ∧ sHi cat kept z n ≤ n := by
  induction n with
  | zero => exact ⟨Int.le_refl _, Int.le_refl _⟩
  | succ n ih => unfold sHi; split <;> omega
theorem sKp_s {T lo hi keep z : Int} {n : Nat} : sKp T lo hi keep z (n + 1) = if sKp T lo hi keep z n = 1 ∨ ((lo ≤ sDv (sZ z (2 * n)) T ∧ sDv (sZ z (2 * n)) T < hi) ∧ sDv (sZ z (2 * n + 1)) 100 < keep) then 1 else 0 := rfl
theorem sHi_s {cat kept z : Int} {n : Nat} : sHi cat kept z (n + 1) = sHi cat kept z n + if sDv (sZ z n) 10 < cat ∧ kept = 1 then 1 else 0 := rfl
/-- the class's CAMPS -/
theorem w_camps {k : zK} {l0 r : Nat} {l5 T lo hi keep z : Int} {n : Nat} {M : zM} (hT : 0 < T ∧ T ≤ 2147483647) (hlo : zr lo) (hhi : zr hi) (hk : zr keep) (hn : n ≤ 200) (h : M r 0 = z) : zO (zw3 (fb_X10_world_153 k l0 n l5 T lo hi keep r) zfu 0 0 M) (fun u => u.1 = sKp T lo hi keep z n ∧ u.2 r 0 = sZ z (2 * n) ∧ zFr [r] M u.2) := by
  unfold zw3
  refine zO_for (fun t => t.2.1) n (fun j t => t.1 = sKp T lo hi keep z j ∧ t.2.2 r 0 = sZ z (2 * j) ∧ zFr [r] M t.2.2) ?_ ?_ (by omega) 0 (by omega) rfl ⟨rfl, h, zFr_refl⟩
  · rintro j ⟨y13, y14, M'⟩ hj hc ⟨h1, h2, h3⟩
    simp only at hc h1 h2 h3
    subst hc
    have e1 := f0_next (k := k) (r := r) (p := T) (M := M') hT
    rw [h2] at e1
    generalize hA : zst M' r 0 (sDr (sZ z (2 * j))) = A at e1
    have a1 : A r 0 = sZ z (2 * j + 1) := by rw [← hA, zst_eq]; rfl
    have e2 := f0_next (k := k) (r := r) (p := 100) (M := A) (by omega)
    rw [a1] at e2
    generalize hB : zst A r 0 (sDr (sZ z (2 * j + 1))) = B at e2
    have b1 : B r 0 = sZ z (2 * (j + 1)) := by rw [← hB, zst_eq]; rfl
    have fB : zFr [r] M B := by rw [← hB, ← hA]; exact (h3.st (List.mem_singleton.mpr rfl)).st (List.mem_singleton.mpr rfl)
    have r1 := sDv_r (z := sZ z (2 * j)) hT.1
    have r2 := sDv_r (z := sZ z (2 * j + 1)) (n := 100) (by omega)
    have h01 := sKp_01 (T := T) (lo := lo) (hi := hi) (keep := keep) (z := z) (n := j)
    rw [← h1] at h01
    dsimp only
    unfold fb_X10_world_153
    refine zO_brn (by omega) (by omega) (by omega) (zO_bde e1 (zO_sp3 ?_))
    have fin : ∀ v, v = (if y13 = 1 ∨ ((lo ≤ sDv (sZ z (2 * j)) T ∧ sDv (sZ z (2 * j)) T < hi) ∧ sDv (sZ z (2 * j + 1)) 100 < keep) then 1 else 0) → ∀ P : (Int × zM) → Prop, zO (some (Sum.inl (v, (j : Int) + 1, B)) : Option ((Int × Int × zM) ⊕ (Int × zM))) (zEl (fun t : Int × Int × zM => t.2.1 = ((j + 1 : Nat) : Int) ∧ t.1 = sKp T lo hi keep z (j + 1) ∧ t.2.2 r 0 = sZ z (2 * (j + 1)) ∧ zFr [r] M t.2.2) P) := fun v hv P => zO_inl ⟨by dsimp only; omega, hv.trans (by rw [sKp_s, ← h1]), b1, fB⟩
    by_cases c1 : sDv (sZ z (2 * j)) T < lo
    · refine zO_brp (by omega) hlo c1 (zO_inlk ?_)
      dsimp only
      refine zO_bde e2 (zO_b1 ?_)
      by_cases c3 : sDv (sZ z (2 * j + 1)) 100 < keep
      · refine zO_brn (by omega) hk (by omega) (zO_somek (zO_sp1 ?_))
        rcases h01 with h | h
        · exact zO_brn (by omega) (by omega) (by omega) (zO_brp (by omega) (by omega) rfl (zO_lt (zO_inrk (fin 0 (by rw [if_neg (by omega)]) _))))
        · exact zO_brp (by omega) (by omega) (by omega) (zO_inlk (zO_lt (fin 1 (by rw [if_pos (by omega)]) _)))
      · refine zO_brp (by omega) hk (by omega) (zO_somek (zO_sp1 ?_))
        rcases h01 with h | h
        · exact zO_brn (by omega) (by omega) (by omega) (zO_brp (by omega) (by omega) rfl (zO_lt (zO_inrk (fin 0 (by rw [if_neg (by omega)]) _))))
        · exact zO_brp (by omega) (by omega) (by omega) (zO_inlk (zO_lt (fin 1 (by rw [if_pos (by omega)]) _)))
    by_cases c2 : hi ≤ sDv (sZ z (2 * j)) T
    · refine zO_brn (by omega) hlo c1 (zO_brp (by omega) hhi c2 (zO_inlk ?_))
      dsimp only
      refine zO_bde e2 (zO_b1 ?_)
      by_cases c3 : sDv (sZ z (2 * j + 1)) 100 < keep
      · refine zO_brn (by omega) hk (by omega) (zO_somek (zO_sp1 ?_))
        rcases h01 with h | h
        · exact zO_brn (by omega) (by omega) (by omega) (zO_brp (by omega) (by omega) rfl (zO_lt (zO_inrk (fin 0 (by rw [if_neg (by omega)]) _))))
        · exact zO_brp (by omega) (by omega) (by omega) (zO_inlk (zO_lt (fin 1 (by rw [if_pos (by omega)]) _)))
      · refine zO_brp (by omega) hk (by omega) (zO_somek (zO_sp1 ?_))
        rcases h01 with h | h
        · exact zO_brn (by omega) (by omega) (by omega) (zO_brp (by omega) (by omega) rfl (zO_lt (zO_inrk (fin 0 (by rw [if_neg (by omega)]) _))))
        · exact zO_brp (by omega) (by omega) (by omega) (zO_inlk (zO_lt (fin 1 (by rw [if_pos (by omega)]) _)))
    refine zO_brn (by omega) hlo c1 (zO_brn (by omega) hhi c2 (zO_bde e2 (zO_b1 ?_)))
    by_cases c3 : sDv (sZ z (2 * j + 1)) 100 < keep
    · refine zO_brn (by omega) hk (by omega) (zO_somek (zO_sp1 ?_))
      rcases h01 with h | h
      · exact zO_brn (by omega) (by omega) (by omega) (zO_brn (by omega) (by omega) (by omega) (zO_brn (by omega) (by omega) (by omega) (zO_inlk (zO_lt (zO_inrk (fin 1 (by rw [if_pos (by omega)]) _))))))
      · exact zO_brp (by omega) (by omega) (by omega) (zO_inlk (zO_lt (zO_inrk (fin 1 (by rw [if_pos (by omega)]) _))))
    · refine zO_brp (by omega) hk (by omega) (zO_somek (zO_sp1 ?_))
      rcases h01 with h | h
      · exact zO_brn (by omega) (by omega) (by omega) (zO_brn (by omega) (by omega) (by omega) (zO_brp (by omega) (by omega) rfl (zO_lt (zO_inrk (zO_inrk (fin 0 (by rw [if_neg (by omega)]) _))))))
      · exact zO_brp (by omega) (by omega) (by omega) (zO_inlk (zO_lt (zO_inrk (fin 1 (by rw [if_pos (by omega)]) _))))
  · rintro ⟨y13, y14, M'⟩ hc ⟨h1, h2, h3⟩
    simp only at hc h1 h2 h3
    subst hc
    dsimp only
    unfold fb_X10_world_153
    exact zO_brp (by omega) (by omega) (by omega) (zO_inr ⟨h1, h2, h3⟩)
/-- the class's BUCKETS -/
theorem w_buckets {i L r : Nat} {kept cat z : Int} {n : Nat} {M : zM} (hL : L < 177) (hr : 177 ≤ r) (hc : zr cat) (hkk : kept = 0 ∨ kept = 1) (hn : n ≤ 99) (h : M r 0 = z) (hl : (M 1 10).toNat = L) (ht : ztag (zKn i) L = 4 ∧ L ≠ 0) (h13 : M L 13 = cat) : zO (zw3 (fb_X10_world_242 (zkx (zKn i) r (1, 0, fun _ => 0)) 1 n r kept) zfu 0 0 M) (fun u => u.1 = sHi cat kept z n ∧ zFr [r] M u.2) := by
  unfold zw3
  have ht' : ztag (zkx (zKn i) r (1, 0, fun _ => 0)) L = 4 := by
    unfold ztag zkx
    rw [if_neg (by omega)]
    exact ht.1
  refine zO_for (fun t => t.2.1) n (fun j t => t.1 = sHi cat kept z j ∧ t.2.2 r 0 = sZ z j ∧ zFr [r] M t.2.2) ?_ ?_ (by omega) 0 (by omega) rfl ⟨rfl, h, zFr_refl⟩
  · rintro j ⟨y14, y15, M'⟩ hj hc' ⟨h1, h2, h3⟩
    simp only at hc' h1 h2 h3
    subst hc'
    have e1 := f0_next (k := zkx (zKn i) r (1, 0, fun _ => 0)) (r := r) (p := 10) (M := M') (by omega)
    rw [h2] at e1
    generalize hA : zst M' r 0 (sDr (sZ z j)) = A at e1
    have a1 : A r 0 = sZ z (j + 1) := by rw [← hA, zst_eq]; rfl
    have fA : zFr [r] M A := by rw [← hA]; exact h3.st (List.mem_singleton.mpr rfl)
    have r1 := sDv_r (z := sZ z j) (n := 10) (by omega)
    have rh := sHi_r (cat := cat) (kept := kept) (z := z) (n := j)
    have l1 : (A 1 10).toNat = L := by rw [fA 1 (by simp only [List.mem_singleton]; omega)]; exact hl
    have l2 : A L 13 = cat := by rw [fA L (by simp only [List.mem_singleton]; omega)]; exact h13
    have fin : ∀ v, v = y14 + (if sDv (sZ z j) 10 < cat ∧ kept = 1 then 1 else 0) → ∀ P : (Int × zM) → Prop, zO (some (Sum.inl (v, (j : Int) + 1, A)) : Option ((Int × Int × zM) ⊕ (Int × zM))) (zEl (fun t : Int × Int × zM => t.2.1 = ((j + 1 : Nat) : Int) ∧ t.1 = sHi cat kept z (j + 1) ∧ t.2.2 r 0 = sZ z (j + 1) ∧ zFr [r] M t.2.2) P) := fun v hv P => zO_inl ⟨by dsimp only; omega, hv.trans (by rw [sHi_s, ← h1]), a1, fA⟩
    dsimp only
    unfold fb_X10_world_242
    refine zO_brn (by omega) (by omega) (by omega) (zO_bde e1 ?_)
    rw [l1]
    refine zO_gd ⟨ht', ht.2⟩ (zO_lt ?_)
    rw [l2]
    by_cases c1 : sDv (sZ z j) 10 < cat
    · by_cases c2 : kept = 0
      · exact zO_brn (by omega) hc (by omega) (zO_brp (by omega) (by omega) c2 (zO_lt (fin y14 (by rw [if_neg (by omega)]; omega) _)))
      · exact zO_brn (by omega) hc (by omega) (zO_brn (by omega) (by omega) c2 (zO_lt (zO_lt (fin (y14 + 1) (by rw [if_pos ⟨c1, by omega⟩]) _))))
    · exact zO_brp (by omega) hc (by omega) (zO_lt (fin y14 (by rw [if_neg (fun h' => c1 h'.1)]; omega) _))
  · rintro ⟨y14, y15, M'⟩ hc' ⟨h1, h2, h3⟩
    simp only at hc' h1 h2 h3
    subst hc'
    dsimp only
    unfold fb_X10_world_242
    exact zO_brp (by omega) (by omega) (by omega) (zO_inr ⟨h1, h3⟩)
/-- the reference's walk to a CELL -/
theorem w_walk {k : zK} {l2 l3 l4 l5 l6 l7 l8 at_ : Int} {l : Nat → Int} {M : zM} (hl : ∀ c, c < 256 → 0 ≤ l c ∧ l c ≤ 99) (h : ∀ c, c < 256 → M 126 c = l c) (h0 : 0 ≤ at_ ∧ at_ < zsum 256 l) : zO (zw2 (gb_X11_world_131 k l2 l3 l4 l5 l6 l7 l8 at_ M) zfu 0 (l 0)) (fun r => ∃ c : Nat, r = (c : Int) ∧ c < 256 ∧ zsum c l ≤ at_ ∧ at_ < zsum (c + 1) l) := by
  unfold zw2
  have hb : ∀ n, n ≤ 256 → 0 ≤ zsum n l ∧ zsum n l ≤ 25344 := fun n hn => by
    have h1 : zsum n l ≤ (n : Int) * 99 := zsum_le (fun c hc => (hl c (by omega)).2)
    have h2 : 0 ≤ zsum n l := zsum_nn (fun c hc => (hl c (by omega)).1)
    omega
  refine zO_wh (fun t => ∃ j : Nat, j < 256 ∧ t.1 = (j : Int) ∧ t.2 = zsum (j + 1) l ∧ zsum j l ≤ at_) (fun t => 256 - t.1.toNat) ?_ zfu _ ⟨0, by omega, rfl, by show l 0 = 0 + l 0; omega, h0.1⟩ (by unfold zfu; show 256 - (0 : Int).toNat < _; omega)
  rintro ⟨y10, y11⟩ ⟨j, hj, h1, h2, h3⟩
  dsimp only at h1 h2
  subst h1
  have b1 := hb (j + 1) (by omega)
  have b2 := hb 256 (by omega)
  dsimp only
  unfold gb_X11_world_131
  by_cases c : at_ < y11
  · exact zO_brp (by omega) (by omega) c (zO_inr ⟨j, rfl, hj, h3, by omega⟩)
  · have hj2 : j + 1 < 256 := by
      rcases Nat.lt_or_ge (j + 1) 256 with h' | h'
      · exact h'
      · have : j + 1 = 256 := by omega
        rw [this] at h2
        omega
    have hx := h (j + 1) hj2
    refine zO_brn (by omega) (by omega) c (zO_lt (zO_gd (by omega) (zO_lt (zO_inl ⟨⟨j + 1, hj2, rfl, ?_, by omega⟩, by dsimp only; omega⟩))))
    dsimp only
    rw [show ((j : Int) + 1).toNat = j + 1 by omega, hx, h2]
    rfl
theorem zsum_lt {l : Nat → Int} (hl : ∀ c, c < 256 → 0 ≤ l c) {c d : Nat} (hd : d ≤ 256) (h : c ≤ d) : zsum c l ≤ zsum d l := by
  rw [zsum_sp h]
  have : 0 ≤ zsum (d - c) (fun j => l (c + j)) := zsum_nn (fun j hj => hl _ (by omega))
  omega
/-- which CELL it is -/
theorem w_cell {l : Nat → Int} (hl : ∀ c, c < 256 → 0 ≤ l c) {at_ : Int} {c d : Nat} (hc : c < 256) (hd : d < 256) (h : zsum c l ≤ at_ ∧ at_ < zsum (c + 1) l) : c = d ↔ (zsum d l ≤ at_ ∧ at_ < zsum d l + l d) := by
  constructor
  · rintro rfl
    rw [zsum_s] at h
    exact h
  · intro h'
    rcases Nat.lt_trichotomy c d with h1 | h1 | h1
    · have := zsum_lt hl (c := c + 1) (d := d) (by omega) h1
      omega
    · exact h1
    · have := zsum_lt hl (c := d + 1) (d := c) (by omega) h1
      rw [zsum_s] at this
      omega
/-- how KEPT stands, both ways -/
def sKe (E : zE) (M : zM) (a c : Nat) : Int := eF E 4 (sWo (zgm E M) (eV E a) a c) 100
theorem sKe_r {i L : Nat} {M : zM} {E : zE} (h : zSt i L M E) {a c : Nat} : 0 ≤ sKe E M a c ∧ sKe E M a c ≤ 100 := h.1.1.2.2.2.2 _
theorem zo_or1 {y : Int} (h : y = 0 ∨ y = 1) : zo_or y 1 = 1 ∧ zo_or y 0 = y := by
  rcases h with rfl | rfl
  · exact ⟨by decide, by decide⟩
  · exact ⟨by decide, by decide⟩
/-- the reference's CAMPS -/
theorem w_mcamps {i L a cell n : Nat} {l5 T z : Int} {M : zM} {E : zE} (hs : zSt i L M E) (ha : a < 100) (hcell : cell < 256) (hn : n ≤ 200) (hv : zMw M E a) (h126 : ∀ c, c < 256 → M 126 c = zlv E M a c) (hT : T = zto E M a) (hT0 : T ≠ 0) (hz : M 76 70 = z) : zO (zw3 (gb_X11_world_106 (zKn i) a n cell l5 T) zfu 0 0 M) (fun u => u.1 = sKp T (zsum cell (zlv E M a)) (zsum cell (zlv E M a) + zlv E M a cell) (sKe E M a cell) z n ∧ u.2 76 70 = sZ z (2 * n) ∧ zQm M u.2) := by
  unfold zw3
  have hlr : ∀ c, c < 256 → 0 ≤ zlv E M a c ∧ zlv E M a c ≤ 99 := fun c _ => sLiv_r hs.1
  have hTr := zto_r hs (a := a)
  have hT1 : 0 < T ∧ T ≤ 2147483647 := by omega
  generalize hlo : zsum cell (zlv E M a) = lo
  generalize hhi : lo + zlv E M a cell = hi
  generalize hkp : sKe E M a cell = keep
  refine zO_for (fun t => t.2.1) n (fun j t => t.1 = sKp T lo hi keep z j ∧ t.2.2 76 70 = sZ z (2 * j) ∧ zQm M t.2.2 ∧ zMw t.2.2 E a ∧ t.2.2 126 = M 126) ?_ ?_ (by omega) 0 (by omega) rfl ⟨rfl, hz, zQm.rf, hv, rfl⟩
  · rintro j ⟨y7, y8, M'⟩ hj hc ⟨h1, h2, h3, h4, h5⟩
    simp only at hc h1 h2 h3 h4 h5
    subst hc
    have e1 := g11_draw (k := zKn i) (p := T) (M := M') hT1
    rw [h2] at e1
    generalize hA : zst M' 76 70 (sDr (sZ z (2 * j))) = A at e1
    have a1 : A 76 70 = sZ z (2 * j + 1) := by rw [← hA, zst_eq]; rfl
    have fA : zFr [76] M' A := by rw [← hA]; exact zFr_refl.st (by decide)
    have xA : ∀ x, x ≠ 70 → A 76 x = M' 76 x := fun x hx => by rw [← hA, zst_ns hx]
    have qA : zQm M' A := ⟨fun q x y => fA q (by simp; omega), fun x hx => xA x (by omega)⟩
    have vA : zMw A E a := h4.fr (fun q hq => fA q (by simp; omega)) (xA 48 (by omega)) (xA 49 (by omega))
    have sA := (hs.qm h3).qm qA
    have gA : zgm E A = zgm E M := by rw [zgm_qm qA, zgm_qm h3]
    have r1 := sDv_r (z := sZ z (2 * j)) hT1.1
    have r2 := sDv_r (z := sZ z (2 * j + 1)) (n := 100) (by omega)
    have h01 := sKp_01 (T := T) (lo := lo) (hi := hi) (keep := keep) (z := z) (n := j)
    rw [← h1] at h01
    have or1 := zo_or1 h01
    have e126 : A 126 = M 126 := by rw [fA 126 (by decide), h5]
    dsimp only
    rw [gb_X11_world_106]
    refine zO_brn (by omega) (by omega) (by omega) (zO_bde e1 (zO_gd (by omega) (zO_lt ?_)))
    rw [show A 126 (Int.toNat 0) = zlv E M a 0 by rw [e126]; exact h126 0 (by omega)]
    refine zO_b1 (zO_mono (w_walk (l := zlv E M a) hlr (fun c hc => by rw [e126]; exact h126 c hc) ⟨r1.1, by have : zto E M a = zsum 256 (zlv E M a) := rfl; omega⟩) ?_)
    rintro u ⟨c, rfl, hc, c1, c2⟩
    have hce := w_cell (fun c hc => (hlr c hc).1) hc hcell ⟨c1, c2⟩
    rw [hlo, hhi] at hce
    have hby := g11_by (kind := 4) (c := (c : Int)) sA vA ha ⟨by omega, by omega⟩ (Or.inr (Or.inr rfl))
    rw [gA, Int.toNat_natCast] at hby
    have hsb : sBy (eF E) (zgm E M) (eV E a) a 4 c = sKe E M a c := rfl
    rw [hsb] at hby
    refine zO_bdq hby ?_
    rintro B v ⟨b1, b2, b3, b4⟩
    dsimp only at b1 b2 b3 b4
    subst b1
    have hkr := sKe_r hs (a := a) (c := c)
    have e2 := g11_draw (k := zKn i) (p := 100) (M := B) (by omega)
    rw [show B 76 70 = sZ z (2 * j + 1) by rw [b2 76 (by decide)]; exact a1] at e2
    generalize hC : zst B 76 70 (sDr (sZ z (2 * j + 1))) = C at e2
    have d1 : C 76 70 = sZ z (2 * (j + 1)) := by rw [← hC, zst_eq]; rfl
    have fC : zFr [76] B C := by rw [← hC]; exact zFr_refl.st (by decide)
    have xC : ∀ x, x ≠ 70 → C 76 x = B 76 x := fun x hx => by rw [← hC, zst_ns hx]
    have qC : zQm B C := ⟨fun q x y => fC q (by simp; omega), fun x hx => xC x (by omega)⟩
    have vC : zMw C E a := b4.fr (fun q hq => fC q (by simp; omega)) (xC 48 (by omega)) (xC 49 (by omega))
    have qq := ((h3.tr qA).tr b3).tr qC
    have c126 : C 126 = M 126 := by rw [fC 126 (by decide), b2 126 (by decide), e126]
    have fin : ∀ v, v = (if y7 = 1 ∨ ((lo ≤ sDv (sZ z (2 * j)) T ∧ sDv (sZ z (2 * j)) T < hi) ∧ sDv (sZ z (2 * j + 1)) 100 < keep) then 1 else 0) → ∀ P : (Int × zM) → Prop, zO (some (Sum.inl (v, (j : Int) + 1, C)) : Option ((Int × Int × zM) ⊕ (Int × zM))) (zEl (fun t : Int × Int × zM => t.2.1 = ((j + 1 : Nat) : Int) ∧ t.1 = sKp T lo hi keep z (j + 1) ∧ t.2.2 76 70 = sZ z (2 * (j + 1)) ∧ zQm M t.2.2 ∧ zMw t.2.2 E a ∧ t.2.2 126 = M 126) P) := fun v hv P => zO_inl ⟨by dsimp only; omega, hv.trans (by rw [sKp_s, ← h1]), d1, qq, vC, c126⟩
    have same : c = cell → sKe E M a c = keep := fun h => by rw [h]; exact hkp
    refine zO_bde e2 (zO_b1 ?_)
    by_cases c3 : sDv (sZ z (2 * j + 1)) 100 < sKe E M a c
    · refine zO_brn (by omega) (by omega) (by omega) (zO_somek (zO_sp1 ?_))
      by_cases c4 : c = cell
      · have k1 := hce.mp c4
        have k2 := same c4
        refine zO_brn (by omega) (by omega) (by omega) (zO_brn (by omega) (by omega) (by omega) (zO_lt (zO_lt (zO_inrk ?_))))
        rw [or1.1]
        exact fin 1 (by rw [if_pos (Or.inr ⟨k1, by omega⟩)]) _
      · refine zO_brn (by omega) (by omega) (by omega) (zO_brp (by omega) (by omega) (by omega) (zO_inlk (zO_lt (zO_lt ?_))))
        rw [or1.2]
        refine fin y7 ?_ _
        rcases h01 with h | h
        · rw [if_neg (fun h' => by rcases h' with h' | h'; exact absurd h' (by omega); exact c4 (hce.mpr h'.1))]; exact h
        · rw [if_pos (Or.inl h)]; exact h
    · refine zO_brp (by omega) (by omega) (by omega) (zO_somek (zO_sp1 (zO_brp (by omega) (by omega) rfl (zO_inlk (zO_lt (zO_lt ?_))))))
      rw [or1.2]
      refine fin y7 ?_ _
      rcases h01 with h | h
      · rw [if_neg (fun h' => by
          rcases h' with h' | h'
          · exact absurd h' (by omega)
          · have := same (hce.mpr h'.1)
            have := h'.2
            omega)]
        exact h
      · rw [if_pos (Or.inl h)]; exact h
  · rintro ⟨y7, y8, M'⟩ hc ⟨h1, h2, h3, h4, h5⟩
    simp only at hc h1 h2 h3 h4 h5
    subst hc
    dsimp only
    rw [gb_X11_world_106]
    exact zO_brp (by omega) (by omega) (by omega) (zO_inr ⟨h1, h2, h3⟩)
/-- the reference's BUCKETS -/
theorem w_mbuckets {i L n : Nat} {kept z : Int} {M : zM} {E : zE} (hs : zSt i L M E) (hkk : kept = 0 ∨ kept = 1) (hn : n ≤ 99) (hz : M 76 70 = z) : zO (zw3 (gb_X11_world_218 (zKn i) n kept) zfu 0 0 M) (fun u => u.1 = sHi (eT E) kept z n ∧ zQm M u.2) := by
  unfold zw3
  have hT := hs.1.2.2.1
  refine zO_for (fun t => t.2.1) n (fun j t => t.1 = sHi (eT E) kept z j ∧ t.2.2 76 70 = sZ z j ∧ zQm M t.2.2) ?_ ?_ (by omega) 0 (by omega) rfl ⟨rfl, hz, zQm.rf⟩
  · rintro j ⟨y8, y9, M'⟩ hj hc ⟨h1, h2, h3⟩
    simp only at hc h1 h2 h3
    subst hc
    have e1 := g11_draw (k := zKn i) (p := 10) (M := M') (by omega)
    rw [h2] at e1
    generalize hA : zst M' 76 70 (sDr (sZ z j)) = A at e1
    have a1 : A 76 70 = sZ z (j + 1) := by rw [← hA, zst_eq]; rfl
    have fA : zFr [76] M' A := by rw [← hA]; exact zFr_refl.st (by decide)
    have xA : ∀ x, x ≠ 70 → A 76 x = M' 76 x := fun x hx => by rw [← hA, zst_ns hx]
    have qA : zQm M' A := ⟨fun q x y => fA q (by simp; omega), fun x hx => xA x (by omega)⟩
    have ec := ((hs.qm h3).qm qA).cat
    have r1 := sDv_r (z := sZ z j) (n := 10) (by omega)
    have rh := sHi_r (cat := eT E) (kept := kept) (z := z) (n := j)
    have fin : ∀ v, v = y8 + (if sDv (sZ z j) 10 < eT E ∧ kept = 1 then 1 else 0) → ∀ P : (Int × zM) → Prop, zO (some (Sum.inl (v, (j : Int) + 1, A)) : Option ((Int × Int × zM) ⊕ (Int × zM))) (zEl (fun t : Int × Int × zM => t.2.1 = ((j + 1 : Nat) : Int) ∧ t.1 = sHi (eT E) kept z (j + 1) ∧ t.2.2 76 70 = sZ z (j + 1) ∧ zQm M t.2.2) P) := fun v hv P => zO_inl ⟨by dsimp only; omega, hv.trans (by rw [sHi_s, ← h1]), a1, h3.tr qA⟩
    dsimp only
    rw [gb_X11_world_218]
    refine zO_brn (by omega) (by omega) (by omega) (zO_bde e1 (zO_b1e ec (zO_sp1 ?_)))
    by_cases c1 : sDv (sZ z j) 10 < eT E
    · by_cases c2 : kept = 0
      · exact zO_brn (by omega) (by omega) (by omega) (zO_brp (by omega) (by omega) c2 (zO_inlk (zO_lt (zO_lt (fin (y8 + 0) (by rw [if_neg (by omega)]) _)))))
      · exact zO_brn (by omega) (by omega) (by omega) (zO_brn (by omega) (by omega) c2 (zO_lt (zO_lt (zO_inrk (fin (y8 + 1) (by rw [if_pos ⟨c1, by omega⟩]) _)))))
    · exact zO_brp (by omega) (by omega) (by omega) (zO_inlk (zO_lt (zO_lt (fin (y8 + 0) (by rw [if_neg (fun h' => c1 h'.1)]) _))))
  · rintro ⟨y8, y9, M'⟩ hc ⟨h1, h2, h3⟩
    simp only at hc h1 h2 h3
    subst hc
    dsimp only
    rw [gb_X11_world_218]
    exact zO_brp (by omega) (by omega) (by omega) (zO_inr ⟨h1, h3⟩)
theorem g4_before {i c : Nat} {sp : Int} {M : zM} {l : Nat → Int} (hc : c < 256) (hl : ∀ x, x < 256 → 0 ≤ l x ∧ l x ≤ 99) (hof : ∀ x : Nat, x < 256 → g_X4_of (zKn i) sp x M = some (l x)) : g_X4_before (zKn i) sp c M = some (zsum c l) := by
  apply zO_get
  unfold g_X4_before
  have h := zO_sum (F := gb_X4_before_5 (zKn i) sp c M) (N := c) l ?_ ?_ (by omega) 0
  · exact zO_b1e h (zO_some (by omega))
  · intro a j hj
    apply zO_get
    rw [gb_X4_before_5]
    exact zO_brn (by omega) (by omega) (by omega) (zO_b1e (hof j (by omega)) (zO_lt (zO_lt (zO_some rfl))))
  · intro a
    apply zO_get
    rw [gb_X4_before_5]
    exact zO_brp (by omega) (by omega) (by omega) (zO_some rfl)
def sWorld (E : zE) (M : zM) (z camps bs : Int) (a c : Nat) : Int := if zto E M a = 0 then -1 else sHi (eT E) (sKp (zto E M a) (zsum c (zlv E M a)) (zsum c (zlv E M a) + zlv E M a c) (sKe E M a c) z camps.toNat) (sZ z (2 * camps.toNat)) bs.toNat
theorem sWorld_q {E : zE} {M M' : zM} (h : zgm E M' = zgm E M) {z camps bs : Int} {a c : Nat} : sWorld E M' z camps bs a c = sWorld E M z camps bs a c := by
  have e : zlv E M' a = zlv E M a := by funext c; exact zlv_q h
  unfold sWorld sKe
  rw [zto_q h, e, h]
theorem zNr_fx {M : zM} (h1 : (M 1 10).toNat < 177) (h2 : (M 1 11).toNat < 177) : zNr M (zfx M) ∧ 177 ≤ zfx M := by
  unfold zfx
  by_cases c1 : zNr M 177
  · rw [if_pos c1]; exact ⟨c1, Nat.le_refl _⟩
  rw [if_neg c1]
  by_cases c2 : zNr M 178
  · rw [if_pos c2]; exact ⟨c2, by omega⟩
  rw [if_neg c2]
  by_cases c3 : zNr M 179
  · rw [if_pos c3]; exact ⟨c3, by omega⟩
  rw [if_neg c3]
  refine ⟨?_, by omega⟩
  unfold zNr at *
  omega
theorem w_bad_c {k : zK} {p1 p2 p3 p4 p5 : Int} {M : zM} (h1 : zr p1) (h2 : zr p2) (h3 : zr p3) (h4 : zr p4) (h5 : zr p5) (h : ¬ ((0 ≤ p1 ∧ p1 ≤ 999999999) ∧ (0 ≤ p2 ∧ p2 < 100) ∧ (1 ≤ p3 ∧ p3 ≤ 200) ∧ (0 ≤ p4 ∧ p4 < 256) ∧ (0 ≤ p5 ∧ p5 ≤ 99))) : f_X10_world k 1 p1 p2 p3 p4 p5 M = some (M, -1) := by
  apply zO_get
  unfold f_X10_world
  by_cases c1 : p1 < 0
  · exact zO_brp (by omega) (by omega) c1 (zO_some rfl)
  refine zO_brn (by omega) (by omega) c1 ?_
  by_cases c2 : 999999999 < p1
  · exact zO_brp (by omega) (by omega) c2 (zO_some rfl)
  refine zO_brn (by omega) (by omega) c2 ?_
  by_cases ha : 0 ≤ p2 ∧ p2 < 100
  rotate_left
  · exact zO_b1e (t_age_n (k := k) (M := M) h2 ha).1 (zO_brp (by omega) (by omega) (by omega) (zO_some rfl))
  refine zO_b1e (t_age (k := k) (M := M) ha).1 (zO_brn (by omega) (by omega) (by omega) ?_)
  by_cases c3 : p3 < 1
  · exact zO_brp (by omega) (by omega) c3 (zO_some rfl)
  refine zO_brn (by omega) (by omega) c3 ?_
  by_cases c4 : p3 ≤ 200
  rotate_left
  · exact zO_brn (by omega) (by omega) c4 (zO_some rfl)
  refine zO_brp (by omega) (by omega) c4 ?_
  by_cases hc : 0 ≤ p4 ∧ p4 < 256
  rotate_left
  · exact zO_b1e (t_cell_n (k := k) (M := M) h4 hc).1 (zO_brp (by omega) (by omega) (by omega) (zO_some rfl))
  refine zO_b1e (t_cell (k := k) (M := M) hc).1 (zO_brn (by omega) (by omega) (by omega) ?_)
  by_cases c5 : p5 < 0
  · exact zO_brp (by omega) (by omega) c5 (zO_some rfl)
  exact zO_brn (by omega) (by omega) c5 (zO_brn (by omega) (by omega) (by omega) (zO_some rfl))
theorem w_bad_m {k : zK} {p1 p2 p3 p4 p5 : Int} {M : zM} (h1 : zr p1) (h2 : zr p2) (h3 : zr p3) (h4 : zr p4) (h5 : zr p5) (h : ¬ ((0 ≤ p1 ∧ p1 ≤ 999999999) ∧ (0 ≤ p2 ∧ p2 < 100) ∧ (1 ≤ p3 ∧ p3 ≤ 200) ∧ (0 ≤ p4 ∧ p4 < 256) ∧ (0 ≤ p5 ∧ p5 ≤ 99))) : g_X11_world k p1 p2 p3 p4 p5 M = some (M, -1) := by
  apply zO_get
  unfold g_X11_world
  by_cases c1 : 0 ≤ p1 ∧ p1 ≤ 999999999
  rotate_left
  · exact zO_b1e (t_in_n (k := k) (M := M) h1 (b := 0) (c := 999999999) (by omega) (by omega) c1) (zO_brp (by omega) (by omega) (by omega) (zO_some rfl))
  refine zO_b1e (t_in (k := k) (M := M) h1 (b := 0) (c := 999999999) (by omega) (by omega) c1) (zO_brn (by omega) (by omega) (by omega) ?_)
  by_cases ha : 0 ≤ p2 ∧ p2 < 100
  rotate_left
  · exact zO_b1e (t_age_n (k := k) (M := M) h2 ha).2 (zO_brp (by omega) (by omega) (by omega) (zO_some rfl))
  refine zO_b1e (t_age (k := k) (M := M) ha).2 (zO_brn (by omega) (by omega) (by omega) ?_)
  by_cases c4 : 1 ≤ p3 ∧ p3 ≤ 200
  rotate_left
  · exact zO_b1e (t_in_n (k := k) (M := M) h3 (b := 1) (c := 200) (by omega) (by omega) c4) (zO_brp (by omega) (by omega) (by omega) (zO_some rfl))
  refine zO_b1e (t_in (k := k) (M := M) h3 (b := 1) (c := 200) (by omega) (by omega) c4) (zO_brn (by omega) (by omega) (by omega) ?_)
  by_cases hc : 0 ≤ p4 ∧ p4 < 256
  rotate_left
  · exact zO_b1e (t_cell_n (k := k) (M := M) h4 hc).2 (zO_brp (by omega) (by omega) (by omega) (zO_some rfl))
  refine zO_b1e (t_cell (k := k) (M := M) hc).2 (zO_brn (by omega) (by omega) (by omega) ?_)
  exact zO_b1e (t_in_n (k := k) (M := M) h5 (b := 0) (c := 99) (by omega) (by omega) (by omega)) (zO_brn (by omega) (by omega) (by omega) (zO_some rfl))
theorem p_world {i L : Nat} {M : zM} {E : zE} {p1 p2 p3 p4 p5 : Int} (hI : zInv i L M E) (h1 : zr p1) (h2 : zr p2) (h3 : zr p3) (h4 : zr p4) (h5 : zr p5) : zP2 i L E (f_X10_world (zKn i) 1 p1 p2 p3 p4 p5) (g_X11_world (zKn i) p1 p2 p3 p4 p5) M := by
  by_cases hv : (0 ≤ p1 ∧ p1 ≤ 999999999) ∧ (0 ≤ p2 ∧ p2 < 100) ∧ (1 ≤ p3 ∧ p3 ≤ 200) ∧ (0 ≤ p4 ∧ p4 < 256) ∧ (0 ≤ p5 ∧ p5 ≤ 99)
  rotate_left
  · exact zP2_of (fun _ => -1) hI ⟨_, w_bad_c h1 h2 h3 h4 h5 hv, rfl, zQw.rf, hI.2.1⟩ (fun M' _ => ⟨_, w_bad_m h1 h2 h3 h4 h5 hv, rfl, zQm.rf⟩) (fun _ _ => rfl)
  obtain ⟨v1, ha, v3, hc, v5⟩ := hv
  obtain ⟨a, rfl⟩ : ∃ a : Nat, p2 = a := ⟨p2.toNat, by omega⟩
  obtain ⟨c, rfl⟩ : ∃ c : Nat, p4 = c := ⟨p4.toNat, by omega⟩
  obtain ⟨n, rfl⟩ : ∃ n : Nat, p3 = n := ⟨p3.toNat, by omega⟩
  obtain ⟨b, rfl⟩ : ∃ b : Nat, p5 = b := ⟨p5.toNat, by omega⟩
  refine zP2_of (fun M => sWorld E M p1 n b a c) hI ?_ (fun M' h => ?_) (fun M' q => sWorld_q (zgm_qc q))
  · unfold f_X10_world
    refine zO_brn (by omega) (by omega) (by omega) (zO_brn (by omega) (by omega) (by omega) ?_)
    refine zO_b1e (t_age (k := zKn i) (M := M) ha).1 (zO_brn (by omega) (by omega) (by omega) (zO_brn (by omega) (by omega) (by omega) (zO_brp (by omega) (by omega) (by omega) ?_)))
    refine zO_b1e (t_cell (k := zKn i) (M := M) hc).1 (zO_brn (by omega) (by omega) (by omega) (zO_brn (by omega) (by omega) (by omega) (zO_brp (by omega) (by omega) (by omega) ?_)))
    rw [e_X10_viewAt, e_X10_spanKnown]
    refine zO_bdq (g10_view' (by omega) hI) ?_
    rintro A v ⟨rv, qA, vA, iA⟩
    dsimp only at rv qA vA iA
    subst rv
    refine zO_gd zt_21 ?_
    refine zO_bdq (g10_span iA.1 vA.1 (a := a) (by omega)) ?_
    rintro B s ⟨b1, b2, b3, b4, b5, b6, b7⟩
    dsimp only at b1 b2 b3 b4 b5 b6 b7
    have vB := b4 _ vA rfl
    have qB : zQw A B := ⟨b2, b7 46 (by decide), b7 47 (by decide)⟩
    have hp := hI.1.1.2.2.2.2.1 a (by omega)
    have qMB := qA.tr qB
    have sB := hI.1.qc qMB.1
    have gB : zgm E B = zgm E M := zgm_qc qMB.1
    have gA : zgm E A = zgm E M := zgm_qc qA.1
    rw [b1]
    rw [zq_1_5, zq_39_0, b5, zto_q gA, e_X4_before, e_X4_of]
    refine zO_gd (by omega) (zO_lt ?_)
    have hto := zto_r hI.1 (a := a)
    unfold sWorld
    by_cases c0 : zto E M a = 0
    · rw [if_pos c0]
      exact zO_brn (by omega) (by omega) (by omega) (zO_some ⟨rfl, qMB, vB.1.ca⟩)
    rw [if_neg c0]
    refine zO_brp (by omega) (by omega) (by omega) ?_
    have hlr : ∀ c, c < 256 → 0 ≤ zlv E M a c ∧ zlv E M a c ≤ 99 := fun c _ => sLiv_r hI.1.1
    have hof : ∀ x : Nat, x < 256 → g_X4_of (zKn i) (eP E a) x B = some (zlv E M a x) := by
      intro x hx
      have := b6 x hx
      rw [zlv_q gA] at this
      unfold g_X4_of
      rw [zgd_p (by omega), ← this]
      congr 2
      omega
    have hsum : ∀ n, n ≤ 256 → 0 ≤ zsum n (zlv E M a) ∧ zsum n (zlv E M a) ≤ 25344 := fun n hn => by
      have h1 : zsum n (zlv E M a) ≤ (n : Int) * 99 := zsum_le (fun c hc => (hlr c (by omega)).2)
      have h2 : 0 ≤ zsum n (zlv E M a) := zsum_nn (fun c hc => (hlr c (by omega)).1)
      omega
    have hs1 := hsum c (by omega)
    have hs2 := hlr c (by omega)
    refine zO_b1e (g4_before (by omega) hlr hof) (zO_b1e (hof c (by omega)) (zO_lt ?_))
    obtain ⟨l1, l2, l3, l4⟩ := sB.law
    rw [l1]
    refine zO_gd ⟨l2, l3⟩ (zO_lt ?_)
    rw [show (21 : Int).toNat = 21 from rfl, e_X8_wordsOf]
    refine zO_bdq (vB.wo (c := (c : Int)) sB ⟨by omega, by omega⟩ (by omega)) ?_
    rintro C w ⟨w1, w2, w3, w4, w5, w6⟩
    dsimp only at w1 w2 w3 w4 w5 w6
    subst w1
    have qC : zQw M C := qMB.tr (zQw.of w2 (by decide))
    refine zO_gd ⟨zt_37, by rw [show (37 : Int).toNat = 37 from rfl, zl_37]; rfl⟩ ?_
    have w6' := w6 4 100 (Or.inr (Or.inr (Or.inr rfl)))
    rw [gB, Int.toNat_natCast] at w6'
    have hke := sKe_r hI.1 (a := a) (c := c)
    refine zO_b1e w6' ?_
    change 0 ≤ eF E 4 (sWo (zgm E M) (eV E a) a c) 100 ∧ eF E 4 (sWo (zgm E M) (eV E a) a c) 100 ≤ 100 at hke
    obtain ⟨m1, m2, m3, m4⟩ := w3.law
    have hfx := zNr_fx (M := C) (by omega) (by rw [w3.2.1.2.2.1]; omega)
    have hnr := hfx.1
    have hz := hfx.2
    generalize zfx C = r at hz hnr
    refine zO_gd hnr (zO_gd h1 ?_)
    have fr : zFr [r] C (zst C r 0 p1) := zFr_refl.st (List.mem_singleton.mpr rfl)
    refine zO_bd ?_
    unfold fr_X10_world
    refine zO_b2 (zO_mono (w_camps (z := p1) ⟨by omega, by omega⟩ (by omega) (by omega) (by omega) (by omega) zst_eq) ?_)
    rintro ⟨kp, D⟩ ⟨k1, k2, k3⟩
    dsimp only at k1 k2 k3
    have h01 := sKp_01 (T := zto E M a) (lo := zsum c (zlv E M a)) (hi := zsum c (zlv E M a) + zlv E M a c) (keep := eF E 4 (sWo (zgm E M) (eV E a) a c) 100) (z := p1) (n := n)
    rw [← k1] at h01
    have fD : zFr [r] C D := fr.tr k3
    have d1 : D 1 = C 1 := fD 1 (by simp only [List.mem_singleton]; omega)
    have dL : D L = C L := fD L (by simp only [List.mem_singleton]; omega)
    refine zO_b2 (zO_mono (w_buckets (i := i) (L := L) (cat := eT E) (by omega) hz (by have := hI.1.1.2.2.1; omega) h01 (by omega) k2 (by dsimp only; rw [d1]; exact m1) ⟨m2, m3⟩ (by dsimp only; rw [dL]; exact w3.2.1.2.2.2.2.2.1)) ?_)
    rintro ⟨hi, G⟩ ⟨x1, x2⟩
    dsimp only at x1 x2
    have fG : zFr [r] C G := fD.tr x2
    refine zO_some ?_
    dsimp only
    have g1 : G 1 = C 1 := fG 1 (by simp only [List.mem_singleton]; omega)
    have g20 : G 20 = C 20 := fG 20 (by simp only [List.mem_singleton]; omega)
    have eG : zrs C G r = C := by
      funext q
      unfold zrs
      by_cases e : q = r
      · rw [if_pos e, e]
      · rw [if_neg e]; exact fG q (by simp only [List.mem_singleton]; exact e)
    refine zO_gd (by unfold zNr at *; rw [g1, g20]; exact hnr) ?_
    rw [eG]
    refine zO_some ⟨?_, qC, w4.1.ca⟩
    dsimp only
    rw [x1, k1]
    rfl
  · unfold g_X11_world
    refine zO_b1e (t_in (k := zKn i) (M := M') h1 (b := 0) (c := 999999999) (by omega) (by omega) v1) (zO_brn (by omega) (by omega) (by omega) ?_)
    refine zO_b1e (t_age (k := zKn i) (M := M') ha).2 (zO_brn (by omega) (by omega) (by omega) ?_)
    refine zO_b1e (t_in (k := zKn i) (M := M') h3 (b := 1) (c := 200) (by omega) (by omega) v3) (zO_brn (by omega) (by omega) (by omega) ?_)
    refine zO_b1e (t_cell (k := zKn i) (M := M') hc).2 (zO_brn (by omega) (by omega) (by omega) ?_)
    refine zO_b1e (t_in (k := zKn i) (M := M') h5 (b := 0) (c := 99) (by omega) (by omega) v5) (zO_brp (by omega) (by omega) (by omega) ?_)
    refine zO_b1q (g11_lives h.1 (a := a) (by omega)) ?_
    rintro A ⟨qA, vA, lA⟩
    have hto := zto_r h.1 (a := a)
    have hlr : ∀ c, c < 256 → 0 ≤ zlv E M' a c ∧ zlv E M' a c ≤ 99 := fun c _ => sLiv_r h.1.1
    have hs := zO_sum (F := gb_X11_world_61 (zKn i) p1 a n c b A) (N := 256) (zlv E M' a) (fun x j hj => by
      apply zO_get
      rw [gb_X11_world_61]
      refine zO_brn (by omega) (by omega) (by omega) (zO_gd (by omega) (zO_lt (zO_lt (zO_some ?_))))
      rw [Int.toNat_natCast, lA j hj]
      rfl) (fun x => by
      apply zO_get
      rw [gb_X11_world_61]
      exact zO_brp (by omega) (by omega) (by omega) (zO_some rfl)) (by omega) 0
    rw [Int.zero_add] at hs
    refine zO_b1e hs ?_
    have ez : zsum 256 (zlv E M' a) = zto E M' a := rfl
    rw [ez]
    have gA : zgm E A = zgm E M' := zgm_qm qA
    have eA' : zlv E A a = zlv E M' a := by funext x; exact zlv_q gA
    unfold sWorld
    by_cases c0 : zto E M' a = 0
    · rw [if_pos c0]
      exact zO_brn (by omega) (by omega) (by omega) (zO_some ⟨rfl, qA⟩)
    rw [if_neg c0]
    refine zO_brp (by omega) (by omega) c0 (zO_gd h1 (zO_lte (fun D eD => ?_)))
    have fD : zFr [76] A D := by rw [eD]; exact zFr_refl.st (by decide)
    have xD : ∀ x, x ≠ 70 → D 76 x = A 76 x := fun x hx => by rw [eD, zst_ns hx]
    have qD : zQm A D := ⟨fun q x y => fD q (by simp; omega), fun x hx => xD x (by omega)⟩
    have vD : zMw D E a := vA.fr (fun q hq => fD q (by simp; omega)) (xD 48 (by omega)) (xD 49 (by omega))
    have sD := h.1.qm (qA.tr qD)
    have gD : zgm E D = zgm E M' := zgm_qm (qA.tr qD)
    have lD : zlv E D a = zlv E M' a := by funext x; exact zlv_q gD
    have kD : sKe E D a c = sKe E M' a c := by unfold sKe; rw [gD]
    have hcamps := w_mcamps (cell := c) (n := n) (l5 := (b : Int)) (T := zto E M' a) (z := p1) sD (by omega) (by omega) (by omega) vD (fun x hx => by rw [fD 126 (by decide), lD]; exact lA x hx) (zto_q gD).symm c0 (by rw [eD, zst_eq])
    rw [lD, kD] at hcamps
    refine zO_b2 (zO_mono hcamps ?_)
    rintro ⟨kp, G⟩ ⟨k1, k2, k3⟩
    dsimp only at k1 k2 k3
    have h01 := sKp_01 (T := zto E M' a) (lo := zsum c (zlv E M' a)) (hi := zsum c (zlv E M' a) + zlv E M' a c) (keep := sKe E M' a c) (z := p1) (n := n)
    rw [← k1] at h01
    refine zO_b2 (zO_mono (w_mbuckets (sD.qm k3) h01 (by omega) k2) ?_)
    rintro ⟨hi, H⟩ ⟨x1, x2⟩
    refine zO_some ⟨?_, ((qA.tr qD).tr k3).tr x2⟩
    dsimp only at *
    rw [x1, k1]
    rfl

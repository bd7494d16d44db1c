/-! ship: the ways in their order -/
theorem zLex_tri {P : Nat} {w W : Nat → Int} : (∀ p, p < P → w p = W p) ∨ zLex P w W ∨ zLex P W w := by
  induction P with
  | zero => exact Or.inl (fun p hp => by omega)
  | succ P ih =>
    rcases ih with h | ⟨p, h1, h2, h3⟩ | ⟨p, h1, h2, h3⟩
    · rcases Int.lt_trichotomy (w P) (W P) with h' | h' | h'
      · exact Or.inr (Or.inr ⟨P, by omega, fun q hq => (h q hq).symm, h'⟩)
      · refine Or.inl (fun p hp => ?_)
        by_cases e : p = P
        · subst e; exact h'
        · exact h p (by omega)
      · exact Or.inr (Or.inl ⟨P, by omega, h, h'⟩)
    · exact Or.inr (Or.inl ⟨p, by omega, h2, h3⟩)
    · exact Or.inr (Or.inr ⟨p, by omega, h2, h3⟩)
theorem zLex_ne {P : Nat} {w W : Nat → Int} (h : zLex P w W) (e : ∀ p, p < P → w p = W p) : False := by
  obtain ⟨p, h1, h2, h3⟩ := h
  have := e p h1
  omega
theorem zLex_as {P : Nat} {w W : Nat → Int} (h : zLex P w W) (h' : zLex P W w) : False := by
  obtain ⟨p, h1, h2, h3⟩ := h
  obtain ⟨q, k1, k2, k3⟩ := h'
  rcases Nat.lt_trichotomy p q with e | e | e
  · have := k2 p e; omega
  · subst e; omega
  · have := h2 q e; omega
theorem zLex_c {P : Nat} {w W w' W' : Nat → Int} (h : zLex P w W) (e : ∀ p, p < P → w p = w' p) (e' : ∀ p, p < P → W p = W' p) : zLex P w' W' := by
  obtain ⟨p, h1, h2, h3⟩ := h
  exact ⟨p, h1, fun q hq => by rw [← e q (by omega), ← e' q (by omega)]; exact h2 q hq, by rw [← e p h1, ← e' p h1]; exact h3⟩
/-- one best way alone -/
theorem zBest_one {P : Nat} {n : Int} {lf : Nat → Int} {ct v v' : Int} {w w' : Nat → Int} (h : zBest P n lf ct v w) (h' : zBest P n lf ct v' w') : v = v' ∧ ∀ p, p < P → w p = w' p := by
  obtain ⟨a1, a2, a3⟩ := h
  obtain ⟨b1, b2, b3⟩ := h'
  have c1 := a3 w' b1
  have c2 := b3 w a1
  rw [← b2] at c1
  rw [← a2] at c2
  have e : v = v' := by omega
  refine ⟨e, ?_⟩
  rcases c1 with c1 | ⟨_, c1 | c1⟩
  · omega
  · exact c1
  · rcases c2 with c2 | ⟨_, c2 | c2⟩
    · omega
    · exact fun p hp => (c2 p hp).symm
    · exact (zLex_as c1 c2).elim
/-! how many ways there are -/
def zSn : Nat → (Nat → Nat) → Nat
  | 0, _ => 0
  | n + 1, f => zSn n f + f n
theorem zSn_s {n : Nat} {f : Nat → Nat} : zSn (n + 1) f = zSn n f + f n := rfl
theorem zSn_le {n m : Nat} {f : Nat → Nat} (h : n ≤ m) : zSn n f ≤ zSn m f := by
  induction m with
  | zero => rw [show n = 0 by omega]; exact Nat.le_refl _
  | succ m ih =>
    by_cases e : n = m + 1
    · rw [e]; exact Nat.le_refl _
    · rw [zSn_s]; have := ih (by omega); omega
theorem zSn_f {n : Nat} {f : Nat → Nat} : zSn (n + 1) f = f 0 + zSn n (fun q => f (q + 1)) := by
  induction n with
  | zero => show 0 + f 0 = f 0 + 0; omega
  | succ n ih => rw [zSn_s, ih, zSn_s]; omega
def zNw : Nat → Nat → Nat
  | 0, t => if t = 0 then 1 else 0
  | m + 1, t => zSn (t + 1) (fun v => zNw m (t - v))
theorem zNw_s {m t : Nat} : zNw (m + 1) t = zSn (t + 1) (fun v => zNw m (t - v)) := rfl
def zRk : Nat → Nat → (Nat → Nat) → Nat
  | 0, _, _ => 0
  | m + 1, t, w => zSn (w 0) (fun v => zNw m (t - v)) + zRk m (t - w 0) (fun q => w (q + 1))
theorem zRk_s {m t : Nat} {w : Nat → Nat} : zRk (m + 1) t w = zSn (w 0) (fun v => zNw m (t - v)) + zRk m (t - w 0) (fun q => w (q + 1)) := rfl
theorem zRk_lt : ∀ (m t : Nat) (w : Nat → Nat), zSn m w = t → zRk m t w < zNw m t := by
  intro m
  induction m with
  | zero =>
    intro t w h
    have h' : t = 0 := h.symm
    subst h'
    show 0 < 1
    omega
  | succ m ih =>
    intro t w h
    rw [zSn_f] at h
    have h1 := ih (t - w 0) (fun q => w (q + 1)) (by omega)
    rw [zRk_s, zNw_s]
    have h2 := zSn_le (n := w 0 + 1) (m := t + 1) (f := fun v => zNw m (t - v)) (by omega)
    rw [zSn_s] at h2
    omega
theorem zRk_lex : ∀ (m t : Nat) (w w' : Nat → Nat), zSn m w = t → zSn m w' = t → (∃ p, p < m ∧ (∀ q, q < p → w q = w' q) ∧ w' p < w p) → zRk m t w' < zRk m t w := by
  intro m
  induction m with
  | zero => rintro t w w' _ _ ⟨p, hp, _⟩; omega
  | succ m ih =>
    rintro t w w' h h' ⟨p, hp, hq, hl⟩
    rw [zSn_f] at h h'
    rw [zRk_s, zRk_s]
    cases p with
    | zero =>
      have h1 := zRk_lt m (t - w' 0) (fun q => w' (q + 1)) (by omega)
      have h2 := zSn_le (n := w' 0 + 1) (m := w 0) (f := fun v => zNw m (t - v)) (by omega)
      rw [zSn_s] at h2
      omega
    | succ p =>
      have e := hq 0 (by omega)
      rw [← e] at h'
      have := ih (t - w 0) (fun q => w (q + 1)) (fun q => w' (q + 1)) (by omega) (by omega) ⟨p, by omega, fun q hq' => hq (q + 1) (by omega), hl⟩
      rw [← e]
      omega
theorem zNw_b : ∀ m, m < 11 → ∀ t, t < 7 → zNw m t ≤ 8008 := by decide +kernel
theorem zSn_i {n : Nat} {f : Nat → Int} (h : ∀ p, p < n → 0 ≤ f p) : ((zSn n (fun p => (f p).toNat) : Nat) : Int) = zsum n f := by
  induction n with
  | zero => rfl
  | succ n ih =>
    rw [zSn_s, zsum_s, ← ih (fun p hp => h p (by omega))]
    have := h n (by omega)
    omega
/-- a way's place from the end -/
def zPl (P : Nat) (n : Int) (w : Nat → Int) : Nat := zRk P n.toNat (fun p => (w p).toNat)
theorem zPl_b {P : Nat} {n : Int} {w : Nat → Int} (h : zWay P n w) (hP : P ≤ 10) (hn : n ≤ 6) : zPl P n w < 8008 := by
  have h1 := zSn_i h.1
  rw [h.2] at h1
  have h2 := zRk_lt P n.toNat (fun p => (w p).toNat) (by omega)
  have h3 := zNw_b P (by omega) n.toNat (by omega)
  unfold zPl
  omega
theorem zPl_lex {P : Nat} {n : Int} {w w' : Nat → Int} (h : zWay P n w) (h' : zWay P n w') (hl : zLex P w w') : zPl P n w' < zPl P n w := by
  have h1 := zSn_i h.1
  have h2 := zSn_i h'.1
  rw [h.2] at h1
  rw [h'.2] at h2
  obtain ⟨p, a1, a2, a3⟩ := hl
  have c := h'.1 p a1
  exact zRk_lex P n.toNat _ _ (by omega) (by omega) ⟨p, a1, fun q hq => by rw [a2 q hq], by omega⟩
/-! the next way -/
theorem zWay_z {P m : Nat} {n : Int} {w : Nat → Int} (h : zWay P n w) (hm : m ≤ P) (hs : zsum m w = n) : ∀ q, m ≤ q → q < P → w q = 0 := by
  intro q hq hq'
  have h1 := zsum_sp (f := w) hm
  rw [h.2, hs] at h1
  have h2 := zsum_at (n := P - m) (c := q - m) (f := fun j => w (m + j)) (by omega) (fun j hj => h.1 (m + j) (by omega))
  try dsimp only at h2
  rw [show m + (q - m) = q by omega] at h2
  have := h.1 q hq'
  omega
theorem zLex_end {P e : Nat} {n : Int} {w w' : Nat → Int} (he : e + 1 = P) (h : zWay P n w) (h' : zWay P n w') (hl : zLex P w w') : ∃ p, p < e ∧ (∀ q, q < p → w q = w' q) ∧ w' p < w p := by
  obtain ⟨p, a1, a2, a3⟩ := hl
  refine ⟨p, ?_, a2, a3⟩
  rcases Nat.lt_or_ge p e with hp | hp
  · exact hp
  · have e1 : p = e := by omega
    subst e1 he
    have h1 := h.2
    have h2 := h'.2
    rw [zsum_s] at h1 h2
    rw [zsum_congr a2] at h1
    omega
theorem zNx {P e k : Nat} {n : Int} {w : Nat → Int} (he : e + 1 = P) (hk : k < e) (h : zWay P n w) (h0 : w k ≠ 0) (hz : ∀ q, k < q → q < e → w q = 0) : zWay P n (zup (zup (zup w e 0) k (zup w e 0 k - 1)) (k + 1) (w e + 1)) ∧ zLex P w (zup (zup (zup w e 0) k (zup w e 0 k - 1)) (k + 1) (w e + 1)) ∧ ∀ w', zWay P n w' → zLex P w w' → (∀ p, p < P → zup (zup (zup w e 0) k (zup w e 0 k - 1)) (k + 1) (w e + 1) p = w' p) ∨ zLex P (zup (zup (zup w e 0) k (zup w e 0 k - 1)) (k + 1) (w e + 1)) w' := by
  have kp := h.1 k (by omega)
  have ep := h.1 e (by omega)
  have u1 : zup w e 0 k = w k := zup_ne (by omega)
  rw [u1]
  have x1 := zsum_upd (n := P) (c := e) (f := w) (g := zup w e 0) (by omega) (fun j _ hj => zup_ne hj)
  have x2 := zsum_upd (n := P) (c := k) (f := zup w e 0) (g := zup (zup w e 0) k (w k - 1)) (by omega) (fun j _ hj => zup_ne hj)
  have x3 := zsum_upd (n := P) (c := k + 1) (f := zup (zup w e 0) k (w k - 1)) (g := zup (zup (zup w e 0) k (w k - 1)) (k + 1) (w e + 1)) (by omega) (fun j _ hj => zup_ne hj)
  have y1 : zup (zup w e 0) k (w k - 1) (k + 1) = 0 := by
    rw [zup_ne (by omega)]
    by_cases c : k + 1 = e
    · rw [c, zup_eq]
    · rw [zup_ne c]; exact hz (k + 1) (by omega) (by omega)
  rw [y1, zup_eq] at x3
  rw [u1, zup_eq] at x2
  rw [h.2, zup_eq] at x1
  have s3 : zsum P (zup (zup (zup w e 0) k (w k - 1)) (k + 1) (w e + 1)) = n := by omega
  generalize hW : zup (zup (zup w e 0) k (w k - 1)) (k + 1) (w e + 1) = W at *
  have W1 : W (k + 1) = w e + 1 := by rw [← hW, zup_eq]
  have W2 : W k = w k - 1 := by rw [← hW, zup_ne (by omega), zup_eq]
  have W3 : ∀ q, q < k → W q = w q := fun q hq => by rw [← hW, zup_ne (by omega), zup_ne (by omega), zup_ne (by omega)]
  have W4 : ∀ q, k + 1 < q → q < P → W q = 0 := fun q hq hq' => by
    rw [← hW, zup_ne (by omega), zup_ne (by omega)]
    by_cases c : q = e
    · rw [c, zup_eq]
    · rw [zup_ne c]; exact hz q (by omega) (by omega)
  have Wn : ∀ q, q < P → 0 ≤ W q := by
    intro q hq
    rcases Nat.lt_trichotomy q k with c | c | c
    · rw [W3 q c]; exact h.1 q hq
    · subst c; omega
    · by_cases c' : q = k + 1
      · subst c'; omega
      · rw [W4 q (by omega) hq]; omega
  have hWay : zWay P n W := ⟨Wn, s3⟩
  refine ⟨hWay, ⟨k, by omega, fun q hq => (W3 q hq).symm, by omega⟩, ?_⟩
  intro w' hw' hl
  obtain ⟨p, a1, a2, a3⟩ := zLex_end he h hw' hl
  have hp' := hw'.1 p (by omega)
  rcases Nat.lt_trichotomy p k with c | c | c
  · exact Or.inr ⟨p, by omega, fun q hq => by rw [W3 q (by omega)]; exact a2 q hq, by rw [W3 p c]; exact a3⟩
  · subst c
    by_cases d : w' p = W p
    · have sW : zsum (p + 2) W = n := by
        have h1 := zsum_sp (f := W) (show p + 2 ≤ P by omega)
        rw [zsum_zero (f := fun j => W (p + 2 + j)) (fun j hj => W4 _ (by omega) (by omega))] at h1
        omega
      have pre : ∀ q, q < p + 1 → w' q = W q := fun q hq => by
        by_cases c : q = p
        · subst c; exact d
        · rw [W3 q (by omega)]; exact (a2 q (by omega)).symm
      have hle := zAf_le (p := p + 1) (show zAf P n (p + 1) W w' from ⟨hw', pre⟩) (by omega)
      rw [zsum_s] at sW
      by_cases d' : w' (p + 1) = W (p + 1)
      · refine Or.inl (fun q hq => ?_)
        have hs' : zsum (p + 2) w' = n := by rw [zsum_s, zsum_congr pre, d']; exact sW
        rcases Nat.lt_trichotomy q (p + 1) with c | c | c
        · exact (pre q c).symm
        · subst c; exact d'.symm
        · rw [W4 q c hq, zWay_z hw' (by omega) hs' q (by omega) hq]
      · exact Or.inr ⟨p + 1, by omega, fun q hq => (pre q hq).symm, by omega⟩
    · exact Or.inr ⟨p, by omega, fun q hq => by rw [W3 q hq]; exact a2 q hq, by omega⟩
  · have := hz p c a1
    omega
theorem g11_goesOn {i P : Nat} {n : Int} {M : zM} (hP : P ≤ 10) (hP' : 1 ≤ P) (h80 : M 80 0 = (P : Int)) (hn : n ≤ 6) (h : zWay P n (M 124)) : zO (g_X11_goesOn (zKn i) M) (fun r => (r.2 = 0 ∧ r.1 = M ∧ ∀ w, zWay P n w → ¬ zLex P (M 124) w) ∨ (r.2 = 1 ∧ zFr [124] M r.1 ∧ zWay P n (r.1 124) ∧ zLex P (M 124) (r.1 124) ∧ ∀ w, zWay P n w → zLex P (M 124) w → (∀ p, p < P → r.1 124 p = w p) ∨ zLex P (r.1 124) w)) := by
  obtain ⟨e, rfl⟩ : ∃ e, P = e + 1 := ⟨P - 1, by omega⟩
  have b6 : ∀ q, q < e + 1 → 0 ≤ M 124 q ∧ M 124 q ≤ 6 := fun q hq => ⟨h.1 q hq, by have := zWay_le h hq; omega⟩
  unfold g_X11_goesOn
  refine zO_gd (by omega) (zO_lt (zO_lt ?_))
  simp only [Int.toNat_zero, h80]
  have hl : zO (zw1 (gb_X11_goesOn_13 (zKn i) (((e + 1 : Nat) : Int) - 1) M) zfu (((e + 1 : Nat) : Int) - 1 - 1)) (fun x => (x = -1 ∧ ∀ q, q < e → M 124 q = 0) ∨ ∃ k : Nat, x = (k : Int) ∧ k < e ∧ M 124 k ≠ 0 ∧ ∀ q, k < q → q < e → M 124 q = 0) := by
    unfold zw1
    refine zO_down (fun s => s) e (fun j _ => ∀ q, j ≤ q → q < e → M 124 q = 0) ?_ ?_ (by omega) (by omega) (fun q h1 h2 => absurd h1 (by omega))
    · intro j s hj hcnt hI
      try dsimp only at hcnt
      subst hcnt
      have := b6 j (by omega)
      rw [gb_X11_goesOn_13]
      simp only [Int.toNat_natCast]
      refine zO_brn ⟨by omega, by omega⟩ ⟨by omega, by omega⟩ (by omega) (zO_gd (by omega) (zO_br ⟨by omega, by omega⟩ ⟨by omega, by omega⟩ (fun hc => ?_) (fun hc => ?_)))
      · exact zO_inr (Or.inr ⟨j, rfl, hj, hc, fun q h1 h2 => hI q h1 h2⟩)
      · refine zO_lt (zO_inl ⟨by omega, fun q h1 h2 => ?_⟩)
        by_cases c : q = j
        · subst c; omega
        · exact hI q (by omega) h2
    · intro s hcnt hI
      try dsimp only at hcnt
      subst hcnt
      rw [gb_X11_goesOn_13]
      exact zO_brp ⟨by omega, by omega⟩ ⟨by omega, by omega⟩ (by omega) (zO_inr (Or.inl ⟨rfl, fun q hq => hI q (by omega) hq⟩))
  refine zO_b1q hl ?_
  rintro x (⟨rfl, hz⟩ | ⟨k, rfl, hk, h0, hz⟩)
  · refine zO_brn ⟨by omega, by omega⟩ ⟨by omega, by omega⟩ (by omega) (zO_some (Or.inl ⟨rfl, rfl, fun w hw hx => ?_⟩))
    obtain ⟨p, a1, a2, a3⟩ := zLex_end rfl h hw hx
    have c1 := hz p a1
    have c2 := hw.1 p (by omega)
    omega
  · have be := b6 e (by omega)
    have bk := b6 k (by omega)
    refine zO_brp ⟨by omega, by omega⟩ ⟨by omega, by omega⟩ (by omega) (zO_gd (by omega) (zO_lt (zO_gd (by omega) (zO_lt (zO_gd (by omega) (zO_gd (by omega) (zO_lt (zO_gd (by omega) (zO_lt (zO_some (Or.inr ⟨rfl, ?_⟩)))))))))))
    simp only [Int.toNat_natCast, show (((e + 1 : Nat) : Int) - 1).toNat = e by omega, show ((k : Int) + 1).toNat = k + 1 by omega, zst_s]
    obtain ⟨z1, z2, z3⟩ := zNx rfl hk h h0 hz
    exact ⟨((zFr.st1 (by decide)).st (by decide)).st (by decide), z1, z2, z3⟩

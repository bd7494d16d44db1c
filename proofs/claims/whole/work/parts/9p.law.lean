/-! law: the class's call -/
theorem f3_clear {i D : Nat} {M : zM} (hD : zDr D) : zO (f_X3_clear (zKn i) D M) (fun M' => zFr [D, D + 8, D + 9, D + 11] M M' ∧ M' D 0 = 0 ∧ M' D 1 = 0 ∧ M' D 7 = 0 ∧ M' D 13 = 0 ∧ (∀ h, h < 3 → M' (D + 11) h = 0) ∧ ∀ a, a < 100 → M' (D + 8) a = 0 ∧ M' (D + 9) a = 0) := by
  have z := zQL (i := i) hD
  unfold f_X3_clear
  rw [z.2.2.2.2.2.2.2.2.2.2]
  have hl : zlen (zKn i) (D + 11) = 3 := by rcases hD with rfl | rfl; exact zl_63; exact zl_75
  refine zO_lt (zO_lt (zO_lt (zO_lt (zO_b1e (zfill hl (by omega)) ?_))))
  have x0 : ∀ s, s = 0 ∨ s = 1 ∨ s = 7 ∨ s = 13 → zst (zst (zst (zst M D 0 0) D 1 0) D 7 0) D 13 0 D s = 0 := by
    intro s hs
    rw [zst_r]
    by_cases e : s = 13
    · rw [if_pos ⟨rfl, e⟩]
    · rw [if_neg (fun h => e h.2), zst_r]
      by_cases e : s = 7
      · rw [if_pos ⟨rfl, e⟩]
      · rw [if_neg (fun h => e h.2), zst_r]
        by_cases e : s = 1
        · rw [if_pos ⟨rfl, e⟩]
        · rw [if_neg (fun h => e h.2), show s = 0 by omega, zst_eq]
  have fr0 : zFr [D] M (zst (zst (zst (zst M D 0 0) D 1 0) D 7 0) D 13 0) := (((zFr.st1 (by simp)).st (by simp)).st (by simp)).st (by simp)
  generalize zst (zst (zst (zst M D 0 0) D 1 0) D 7 0) D 13 0 = A at *
  have f1 : zFr [D, D + 8, D + 9, D + 11] M (fun a b => if a = D + 11 ∧ b < 3 then 0 else A a b) := by
    intro q hq
    have : q ≠ D + 11 := fun e => hq (by rw [e]; simp)
    funext b
    show (if q = D + 11 ∧ b < 3 then 0 else A q b) = M q b
    rw [if_neg (fun h => this h.1), fr0 q (by simp at hq ⊢; omega)]
  have f2 : ∀ s, (fun a b => if a = D + 11 ∧ b < 3 then 0 else A a b : zM) D s = A D s := fun s => by
    dsimp only
    rw [if_neg (by omega)]
  have f3 : ∀ h, h < 3 → (fun a b => if a = D + 11 ∧ b < 3 then 0 else A a b : zM) (D + 11) h = 0 := fun h hh => by
    dsimp only
    rw [if_pos ⟨rfl, hh⟩]
  generalize (fun a b => if a = D + 11 ∧ b < 3 then 0 else A a b : zM) = B at *
  refine zO_b1 ?_
  unfold zw2
  refine zO_for (fun s => s.1) 100 (fun j s => zFr [D + 8, D + 9] B s.2 ∧ ∀ a, a < j → s.2 (D + 8) a = 0 ∧ s.2 (D + 9) a = 0) ?_ ?_ (by omega) 0 (by omega) rfl ⟨zFr_refl, fun a h => absurd h (by omega)⟩
  · rintro j ⟨y, C⟩ hj hcnt ⟨h1, h2⟩
    dsimp only at *
    subst hcnt
    rw [fb_X3_clear_30, z.2.2.2.2.2.2.2.1, z.2.2.2.2.2.2.2.2.1]
    refine zO_brn ⟨by omega, by omega⟩ ⟨by omega, by omega⟩ (by omega) (zO_gd (by omega) (zO_lt (zO_gd (by omega) (zO_lt (zO_lt (zO_inl ⟨by dsimp only; omega, (h1.st (by simp)).st (by simp), fun a ha => ?_⟩))))))
    dsimp only
    rw [Int.toNat_natCast]
    by_cases e : a = j
    · subst e
      rw [zst_ne (by omega), zst_eq, zst_eq]
      exact ⟨rfl, rfl⟩
    · rw [zst_ne (show D + 8 ≠ D + 9 by omega), zst_ns e, zst_ns e, zst_ne (show D + 9 ≠ D + 8 by omega)]
      exact h2 a (by omega)
  · rintro ⟨y, C⟩ hcnt ⟨h1, h2⟩
    dsimp only at *
    subst hcnt
    rw [fb_X3_clear_30]
    refine zO_brp ⟨by omega, by omega⟩ ⟨by omega, by omega⟩ (by omega) (zO_inr (show zO _ _ from zO_some ⟨f1.tr (h1.mono (by simp)), ?_, ?_, ?_, ?_, ?_, h2⟩))
    · rw [h1 D (by simp), f2]; exact x0 0 (by omega)
    · rw [h1 D (by simp), f2]; exact x0 1 (by omega)
    · rw [h1 D (by simp), f2]; exact x0 7 (by omega)
    · rw [h1 D (by simp), f2]; exact x0 13 (by omega)
    · intro h hh
      rw [h1 (D + 11) (by simp)]
      exact f3 h hh
def zRd (b : Nat → Int) (n D : Nat) (M : zM) (r : zM × Int) : Prop := (∀ q, q ≠ 2 → (q < D ∨ D + 11 < q) → r.1 q = M q) ∧ (∀ s, s < 2 ∨ 7 < s → r.1 2 s = M 2 s) ∧ match pLaw b n 40 0 [] with
  | .inl R => r.2 = -1 ∧ R.length ≤ 40 ∧ r.1 D 0 = (R.length : Int) ∧ ∃ (e : Nat → Int) (c1 : Nat), c1 ≤ 700 ∧ r.1 D 1 = (aN R : Int) ∧ zAsk D c1 r.1 R ∧ r.1 D 13 = rCat R ∧ (∀ h : Nat, h < 3 → r.1 (D + 11) h = rCar (h : Int) R) ∧ (∀ a : Nat, a < 100 → ∀ v, rSe (a : Int) R = some v → e a = 1) ∧ (∀ u, u ∈ R → ∀ a, a < 100 → zEd u.2.2.2.2 a → e a = 1) ∧ ∀ a : Nat, a < 100 → r.1 (D + 6) a = (gL R (a + 1)).1 ∧ r.1 (D + 7) a = (gL R (a + 1)).2 ∧ r.1 (D + 10) a = gP e (a + 1)
  | .inr e => r.2 = (yA b n e : Int) ∧ e ≤ n
theorem g6_readL {i n D : Nat} {M : zM} (hn : n ≤ 700) (hb : zBy (M 3)) (hD : zDr D) : zO (g_X6_read (zKn i) (n : Int) D M) (zRd (M 3) n D M) := by
  unfold g_X6_read
  refine zO_b1q (f3_clear hD) ?_
  rintro A ⟨a1, a2, a3, a4, a5, a6, a7⟩
  refine zO_lte (fun B eB => zO_lte (fun C eC => ?_))
  have c1 : ∀ q, q ≠ 2 → C q = A q := fun q h => by rw [eC, zst_ne h, eB, zst_ne h]
  have c2 : ∀ s, s ≠ 2 → s ≠ 4 → C 2 s = A 2 s := fun s h h' => by rw [eC, zst_ns h', eB, zst_ns h]
  have c3 : C 3 = M 3 := by rw [c1 3 (by decide), a1 3 (by rcases hD with rfl | rfl <;> decide)]
  have c22 : C 2 2 = (n : Int) := by rw [eC, zst_ns (by decide), eB, zst_eq]
  have c24 : C 2 4 = ((0 : Nat) : Int) := by rw [eC, zst_eq]; rfl
  clear eB eC
  refine zO_b1q (g6_step (x := 0) hn (by rw [c3]; exact hb) c22 c24 (by omega)) ?_
  rintro E ⟨e1, e2, e3⟩
  rw [c3] at e3
  have d2 : (2 : Nat) ≠ D := by rcases hD with rfl | rfl <;> decide
  have ed : ∀ q, q ≠ 2 → E q = A q := fun q h => by rw [e1 q (by simp; exact h), c1 q h]
  have hS : zCS (M 3) n D 0 0 E := ⟨by rw [e1 3 (by decide)]; exact c3, by rw [e2 2 (by decide) (by decide) (by decide) (by decide)]; exact c22, e3, by rw [ed D d2.symm]; exact a4, by omega, by omega⟩
  have hL : zCL D 0 E [] := by
    refine ⟨by rw [ed D d2.symm]; exact a3, trivial, by rw [ed D d2.symm]; exact a5, fun h hh => by rw [ed (D + 11) (by omega)]; exact a6 h hh, fun a ha => ⟨fun _ => by rw [ed (D + 8) (by omega)]; exact (a7 a ha).1, fun v hv => by cases hv⟩, fun a ha => Or.inl (by rw [ed (D + 9) (by omega)]; exact (a7 a ha).2), fun r hr => absurd hr (by simp)⟩
  have hc := c_read (i := i) hn hb hD E 40 0 [] 0 E zfu rfl (by unfold zfu; omega) hS hL (by rw [ed D d2.symm]; exact a2) zFd.rf
  rw [show (40 : Int) - ((40 : Nat) : Int) = 0 by omega] at hc
  have fE : (∀ q, q ≠ 2 → (q < D ∨ D + 11 < q) → E q = M q) ∧ (∀ s, s < 2 ∨ 7 < s → E 2 s = M 2 s) := by
    refine ⟨fun q h h' => by rw [ed q h, a1 q (by simp; omega)], fun s hs => ?_⟩
    rw [e2 s (by omega) (by omega) (by omega) (by omega), c2 s (by omega) (by omega), a1 2 (by simp; omega)]
  refine zO_sp1 (zO_mono hc ?_)
  intro u hu
  unfold zRd
  cases ho : pLaw (M 3) n 40 0 [] with
  | inl R =>
    rw [ho] at hu
    obtain ⟨F, c1', rfl, f1, f2, f3, f4, f5, f6⟩ := hu
    have hg : ∀ r, r ∈ R → zRg r := zRg_law hb hn 40 0 [] R (fun r hr => absurd hr (by simp)) ho
    show zO (zbr (F 2 5) 0 _ _ _) _
    refine zO_brp (c := F 2 5 = 0) ⟨by omega, by omega⟩ (by omega) f2 ?_
    refine zO_b1q (c_finish hD f3 (gL_r hg)) ?_
    rintro G ⟨g1, g2⟩
    obtain ⟨k1, k2, k3, k4, k5, k6, k7⟩ := f3
    refine zO_some ⟨fun q h h' => ?_, fun s hs => ?_, rfl, f5, ?_, F (D + 9), c1', f6, ?_, zAsk_c (Nat.le_refl _) R k2 (fun q j x y _ => ?_) (fun j _ => ?_), ?_, fun h hh => ?_, fun a ha v hv => ((k5 a ha).2 v hv).2.2.2, k7, g2⟩
    · dsimp only; rw [g1 q (by simp; omega), f1.1 q h h', fE.1 q h h']
    · dsimp only; rw [g1 2 (by rcases hD with rfl | rfl <;> decide), f1.2 s (by omega), fE.2 s hs]
    · dsimp only; rw [g1 D (by simp)]; exact f4
    · dsimp only; rw [g1 D (by simp)]; exact k1
    · dsimp only; rw [g1 q (by simp; omega)]
    · dsimp only; rw [g1 (D + 5) (by simp)]
    · dsimp only; rw [g1 D (by simp)]; exact k3
    · dsimp only; rw [g1 (D + 11) (by simp)]; exact k4 h hh
  | inr e =>
    rw [ho] at hu
    obtain ⟨hen, ⟨F, rfl, f1, f2, f3⟩ | ⟨F, rfl, f1⟩⟩ := hu
    · have hk := yK_r (b := M 3) (n := n) (x := e)
      show zO (zbr (F 2 5) 0 _ _ _) _
      refine zO_brn (c := F 2 5 = 0) ⟨by rw [f2.2.2.1]; omega, by rw [f2.2.2.1]; omega⟩ (by omega) (by rw [f2.2.2.1]; exact f3) (zO_some ⟨fun q h h' => ?_, fun s hs => ?_, f2.1, hen⟩)
      · dsimp only; rw [f1.1 q h h', fE.1 q h h']
      · dsimp only; rw [f1.2 s (by omega), fE.2 s hs]
    · refine show zO _ _ from zO_some ⟨fun q h h' => ?_, fun s hs => ?_, rfl, hen⟩
      · dsimp only; rw [f1.1 q h h', fE.1 q h h']
      · dsimp only; rw [f1.2 s (by omega), fE.2 s hs]
/-! law: the reference's call -/
def zRm (b : Nat → Int) (n : Nat) (M : zM) (u : zM × Int) : Prop := zFr [76, 77, 97, 98, 99, 100, 101, 102, 103, 104, 105, 106, 107, 109, 110] M u.1 ∧ (∀ s, s < 28 ∨ (28 < s ∧ s < 34) ∨ 45 < s ∨ s = 43 ∨ s = 44 → u.1 76 s = M 76 s) ∧ u.1 76 34 = 0 ∧ match pLaw b n 40 0 [] with
  | .inl R => u.2 = (R.length : Int) ∧ u.1 76 35 = -1 ∧ u.1 97 0 = (R.length : Int) ∧ zRw u.1 0 700 R ∧ u.1 77 = M 77
  | .inr e => u.2 = -1 ∧ u.1 76 35 = (yA b n e : Int) ∧ (∀ q, 97 ≤ q → q ≤ 107 → ∀ j, j < zlo q → u.1 q j = M q j) ∧ u.1 77 = zup (M 77) 2 (M 77 2 + 1)
theorem g11_lawR {i n : Nat} {M : zM} (hn : n ≤ 700) (hb : zB8 M) (h34 : (n : Int) ≤ M 76 34) (h34' : M 76 34 ≤ 700) : zO (g_X11_law (zKn i) (n : Int) M) (zRm (M 3) n M) := by
  unfold g_X11_law
  refine zO_sp1 (zO_brn ⟨by omega, by omega⟩ ⟨by omega, by omega⟩ (by omega) (zO_brp ⟨by omega, by omega⟩ ⟨by omega, by omega⟩ h34 ?_))
  refine zO_lte (fun A eA => zO_lte (fun B eB => zO_lte (fun C eC => zO_lte (fun D eD => zO_gd (by omega) (zO_lte (fun E eE => zO_lte (fun F eF => zO_gd (by omega) (zO_lte (fun G eG => ?_)))))))))
  have g1 : ∀ q, q ≠ 76 → q ≠ 97 → G q = M q := fun q h h' => by rw [eG, zst_ne h', eF, zst_ne h, eE, zst_ne h, eD, zst_ne h, eC, zst_ne h, eB, zst_ne h, eA, zst_ne h]
  have g2 : ∀ s, s ≠ 28 → s ≠ 34 → s ≠ 35 → s ≠ 36 → s ≠ 37 → s ≠ 42 → G 76 s = M 76 s := fun s h1 h2 h3 h4 h5 h6 => by rw [eG, zst_ne (by decide), eF, zst_ns h1, eE, zst_ns h6, eD, zst_ns h3, eC, zst_ns h5, eB, zst_ns h2, eA, zst_ns h4]
  have g36 : G 76 36 = (n : Int) := by rw [eG, zst_ne (by decide), eF, zst_ns (by decide), eE, zst_ns (by decide), eD, zst_ns (by decide), eC, zst_ns (by decide), eB, zst_ns (by decide), eA, zst_eq]
  have g34 : G 76 34 = 0 := by rw [eG, zst_ne (by decide), eF, zst_ns (by decide), eE, zst_ns (by decide), eD, zst_ns (by decide), eC, zst_ns (by decide), eB, zst_eq]
  have g37 : G 76 37 = ((0 : Nat) : Int) := by rw [eG, zst_ne (by decide), eF, zst_ns (by decide), eE, zst_ns (by decide), eD, zst_ns (by decide), eC, zst_eq]; rfl
  have g35 : G 76 35 = -1 := by rw [eG, zst_ne (by decide), eF, zst_ns (by decide), eE, zst_ns (by decide), eD, zst_eq]
  have g42 : G 76 42 = 0 := by rw [eG, zst_ne (by decide), eF, zst_ns (by decide), eE, zst_eq]
  have g28 : G 76 28 = ((1000 : Nat) : Int) := by rw [eG, zst_ne (by decide), eF, zst_eq]; rfl
  have g971 : G 97 1 = 0 := by rw [eG]; exact zst_eq
  have g970 : ∀ j, j < 1 → G 97 j = M 97 j := fun j hj => by rw [eG, show Int.toNat 1 = 1 from rfl, zst_ns (by omega), eF, zst_ne (by decide), eE, zst_ne (by decide), eD, zst_ne (by decide), eC, zst_ne (by decide), eB, zst_ne (by decide), eA, zst_ne (by decide)]
  clear eA eB eC eD eE eF eG
  have gb : zB8 G := fun j hj => by rw [g1 3 (by decide) (by decide), g1 108 (by decide) (by decide)]; exact hb j hj
  refine zO_b1q (g11_next (x := 0) hn gb g36 g37 (by omega)) ?_
  rintro H ⟨h1, h2, h3⟩
  rw [g1 3 (by decide) (by decide)] at h3
  have hS : zMS (M 3) n 1000 0 H := ⟨by rw [h1 3 (by decide), g1 3 (by decide) (by decide)], fun j hj => by rw [h1 3 (by decide), h1 108 (by decide)]; exact gb j hj, by rw [h2 36 (by omega)]; exact g36, h3, by rw [h2 42 (by omega)]; exact g42, by rw [h2 35 (by omega)]; exact g35, by rw [h2 28 (by omega)]; exact g28, by omega, by omega, by omega⟩
  have hl := m_loop (i := i) hn H 40 0 [] 1000 H zfu rfl (by unfold zfu; omega) hS (by rw [h1 97 (by decide)]; exact g971) trivial zFn.rf
  refine zO_b1q (show zO (zw1 (gb_X11_law_68 (zKn i)) zfu H) _ from hl) ?_
  rintro I ⟨i1, i2⟩
  have fI : zFr [76, 97, 98, 99, 100, 101, 102, 103, 104, 105, 106, 107, 109, 110] M I := by
    intro q hq
    rw [i1.1 q hq, h1 q (by simp at hq ⊢; omega), g1 q (by simp at hq; omega) (by simp at hq; omega)]
  have f76 : ∀ s, s < 28 ∨ (28 < s ∧ s < 34) ∨ 45 < s ∨ s = 43 ∨ s = 44 → I 76 s = M 76 s := fun s hs => by
    rw [i1.2.1 s (by omega) (by omega) (by omega) (by omega), h2 s (by omega), g2 s (by omega) (by omega) (by omega) (by omega) (by omega) (by omega)]
  have f34 : I 76 34 = 0 := by rw [i1.2.1 34 (by omega) (by omega) (by omega) (by omega), h2 34 (by omega)]; exact g34
  have flo : ∀ q, 97 ≤ q → q ≤ 107 → ∀ j, j < zlo q → I q j = M q j := fun q a b j hj => by
    rw [i1.2.2 q a b j hj, h1 q (by simp; omega)]
    by_cases e : q = 97
    · subst e
      exact g970 j (by unfold zlo at hj; rw [if_pos rfl] at hj; exact hj)
    · rw [g1 q (by omega) e]
  unfold zRm
  cases ho : pLaw (M 3) n 40 0 [] with
  | inr e =>
    rw [ho] at i2
    rw [show I 76 42 = 1 from i2.1]
    refine zO_brn (by omega) (by omega) (by omega) (zO_bde (g11_refuses (by omega)) (zO_inr (show zO _ _ from zO_some ⟨?_, fun s hs => ?_, ?_, rfl, ?_, fun q a b j hj => ?_, ?_⟩)))
    · exact (fI.mono (by simp)).st (by decide)
    · dsimp only; rw [zst_ne (by decide)]; exact f76 s hs
    · dsimp only; rw [zst_ne (by decide)]; exact f34
    · dsimp only; rw [zst_ne (by decide)]; exact i2.2.1
    · dsimp only; rw [zst_ne (by omega)]; exact flo q a b j hj
    · dsimp only
      rw [show Int.toNat 2 = 2 from rfl, zst_s, fI 77 (by decide)]
  | inl R =>
    rw [ho] at i2
    obtain ⟨k1, k2, k3, k4, W', k5, k6⟩ := i2
    rw [k1]
    refine zO_brp (by omega) (by omega) rfl (zO_gd (by omega) (zO_gd (by omega) (zO_lte (fun J eJ => ?_))))
    have j1 : ∀ q, q ≠ 97 → J q = I q := fun q h => by rw [eJ, zst_ne h]
    have j97 : J 97 0 = (R.length : Int) := by rw [eJ]; show zst I 97 0 (I 97 1) 97 0 = _; rw [zst_eq, k3]
    clear eJ
    refine zO_b1q m_copy1 ?_
    rintro K ⟨l1, l2⟩
    refine zO_b1q m_copy2 ?_
    rintro N ⟨n1, n2⟩
    have n97 : N 97 0 = (R.length : Int) := by rw [n1 97 (by decide), l1 97 (by decide)]; exact j97
    have n76 : N 76 = I 76 := by rw [n1 76 (by decide), l1 76 (by decide), j1 76 (by decide)]
    refine zO_gd (by omega) (zO_inr (show zO _ _ from zO_some ⟨?_, fun s hs => ?_, ?_, ?_, ?_, n97, ?_, ?_⟩))
    · intro q hq
      dsimp only
      rw [n1 q (by simp at hq ⊢; omega), l1 q (by simp at hq ⊢; omega), j1 q (by simp at hq; omega), fI q (by simp at hq ⊢; omega)]
    · dsimp only; rw [n76]; exact f76 s hs
    · dsimp only; rw [n76]; exact f34
    · dsimp only; rw [Int.toNat_zero]; exact n97
    · dsimp only; rw [n76]; exact k2
    · have k6' : zRh J W' R := zRh_c (Nat.le_refl _) R k6 (fun q j a b c => by rw [j1 q (by omega)]) (fun q j a b c => by rw [j1 q (by omega)])
      refine zRh_low k5 R k4 k6' (fun t ht => ⟨fun q a b => ?_, fun q a b => ?_⟩) (fun q t a b ht => ?_)
      · dsimp only; rw [n1 q (by simp; omega)]; exact (l2 t ht).1 q a b
      · dsimp only; rw [n1 q (by simp; omega)]; exact (l2 t ht).2 q a b
      · dsimp only; rw [n2 q t a b ht, l1 q (by simp; omega)]
    · dsimp only
      rw [n1 77 (by decide), l1 77 (by decide), j1 77 (by decide), fI 77 (by decide)]

/-! law: the reference's loop, and its LAW put in force -/
theorem m_loop {b : Nat → Int} {i n : Nat} (hn : n ≤ 700) (M0 : zM) : ∀ (f x : Nat) (R : List zRu) (W : Nat) (M : zM) (F : Nat), f + R.length = 40 → f + 2 ≤ F → zMS b n W x M → M 97 1 = (R.length : Int) → zRh M W R → zFn M0 M → zO (zwh (fun t => gb_X11_law_68 (zKn i) t) F M) (fun M' => zFn M0 M' ∧ match pLaw b n f x R with
  | .inl R' => M' 76 42 = 0 ∧ M' 76 35 = -1 ∧ M' 97 1 = (R'.length : Int) ∧ R'.length ≤ 40 ∧ ∃ W', W' ≤ 1700 ∧ zRh M' W' R'
  | .inr e => zME b n e M') := by
  have stop : ∀ (F : Nat) (e : Nat) (M : zM), 1 ≤ F → zME b n e M → zFn M0 M → zO (zwh (fun t => gb_X11_law_68 (zKn i) t) F M) (fun M' => zFn M0 M' ∧ zME b n e M') := by
    intro F e M hF hE hf
    obtain ⟨F, rfl⟩ : ∃ g, F = g + 1 := ⟨F - 1, by omega⟩
    refine zO_wh1 ?_
    show zO (gb_X11_law_68 (zKn i) M) _
    rw [gb_X11_law_68, hE.1]
    have := hE.2.2.2
    exact zO_br ⟨by omega, by omega⟩ ⟨by omega, by omega⟩ (fun _ => zO_inr ⟨hf, hE⟩) (fun _ => zO_brp (by omega) (by omega) (by omega) (zO_inr ⟨hf, hE⟩))
  intro f
  induction f with
  | zero =>
    intro x R W M F hR hF hS h97 hw hf
    obtain ⟨F, rfl⟩ : ∃ g, F = g + 1 := ⟨F - 1, by omega⟩
    have ht := yT_1 hS.2.2.2.1.2.2.1
    have hr := ht.2.2.2.2
    have hW2 := hS.2.2.2.2.2.2.2.2
    refine zO_wh1 ?_
    show zO (gb_X11_law_68 (zKn i) M) _
    rw [gb_X11_law_68, hS.2.2.2.2.1]
    show zO _ (zEl (fun s' => zO (zwh (fun t => gb_X11_law_68 (zKn i) t) F s') (fun M' => zFn M0 M' ∧ match (if yK b n x = 0 then Sum.inl R else Sum.inr x : List zRu ⊕ Nat) with
      | .inl R' => M' 76 42 = 0 ∧ M' 76 35 = -1 ∧ M' 97 1 = (R'.length : Int) ∧ R'.length ≤ 40 ∧ ∃ W', W' ≤ 1700 ∧ zRh M' W' R'
      | .inr e => zME b n e M')) (fun M' => zFn M0 M' ∧ match (if yK b n x = 0 then Sum.inl R else Sum.inr x : List zRu ⊕ Nat) with
      | .inl R' => M' 76 42 = 0 ∧ M' 76 35 = -1 ∧ M' 97 1 = (R'.length : Int) ∧ R'.length ≤ 40 ∧ ∃ W', W' ≤ 1700 ∧ zRh M' W' R'
      | .inr e => zME b n e M'))
    by_cases k : yK b n x = 0
    · rw [if_pos k]
      exact zO_brp ⟨by omega, by omega⟩ ⟨by omega, by omega⟩ (ht.1.2 k) (zO_inr ⟨hf, hS.2.2.2.2.1, hS.2.2.2.2.2.1, h97, by omega, W, by omega, hw⟩)
    · rw [if_neg k]
      refine zO_brn ⟨by omega, by omega⟩ ⟨by omega, by omega⟩ (fun h => k (ht.1.1 h)) (zO_brn (by omega) (by omega) (by omega) (zO_b1q (m_readRule hn hS h97 (by omega) hw) ?_))
      rintro A ⟨a1, a2⟩
      rw [if_pos (by omega)] at a2
      exact zO_inl (stop F x A (by omega) a2 (hf.tr a1))
  | succ f ih =>
    intro x R W M F hR hF hS h97 hw hf
    obtain ⟨F, rfl⟩ : ∃ g, F = g + 1 := ⟨F - 1, by omega⟩
    have ht := yT_1 hS.2.2.2.1.2.2.1
    have hr := ht.2.2.2.2
    have hW2 := hS.2.2.2.2.2.2.2.2
    refine zO_wh1 ?_
    show zO (gb_X11_law_68 (zKn i) M) _
    rw [gb_X11_law_68, hS.2.2.2.2.1]
    have unf : pLaw b n (f + 1) x R = if yK b n x = 0 then .inl R else match pRul b n x with
      | .inl q => pLaw b n f q.2 (q.1 :: R)
      | .inr e => .inr e := rfl
    rw [unf]
    by_cases k : yK b n x = 0
    · rw [if_pos k]
      exact zO_brp ⟨by omega, by omega⟩ ⟨by omega, by omega⟩ (ht.1.2 k) (zO_inr ⟨hf, hS.2.2.2.2.1, hS.2.2.2.2.2.1, h97, by omega, W, by omega, hw⟩)
    · rw [if_neg k]
      refine zO_brn ⟨by omega, by omega⟩ ⟨by omega, by omega⟩ (fun h => k (ht.1.1 h)) (zO_brn (by omega) (by omega) (by omega) (zO_b1q (m_readRule hn hS h97 (by omega) hw) ?_))
      rintro A ⟨a1, a2⟩
      rw [if_neg (by omega)] at a2
      cases ho : pRul b n x with
      | inr e =>
        rw [ho] at a2
        exact zO_inl (stop F e A (by omega) a2 (hf.tr a1))
      | inl q =>
        rw [ho] at a2
        obtain ⟨W', s1, e97, w1⟩ := a2
        exact zO_inl (ih q.2 (q.1 :: R) W' A F (by rw [List.length_cons]; omega) (by omega) s1 (by rw [List.length_cons]; exact e97) w1 (hf.tr a1))
theorem m_copy1 {i : Nat} {M : zM} : zO (zw2 (gb_X11_law_116 (zKn i)) zfu 0 M) (fun M' => zFr [98, 99, 100, 101, 102, 103] M M' ∧ ∀ t, t < 40 → (∀ q, 98 ≤ q → q ≤ 101 → M' q t = M q (40 + t)) ∧ ∀ q, 102 ≤ q → q ≤ 103 → M' q t = M q (40 + t) - 1000) := by
  unfold zw2
  refine zO_for (fun s => s.1) 40 (fun j s => zFr [98, 99, 100, 101, 102, 103] M s.2 ∧ (∀ q t, j ≤ t → s.2 q t = M q t) ∧ ∀ t, t < j → (∀ q, 98 ≤ q → q ≤ 101 → s.2 q t = M q (40 + t)) ∧ ∀ q, 102 ≤ q → q ≤ 103 → s.2 q t = M q (40 + t) - 1000) ?_ ?_ (by omega) 0 (by omega) rfl ⟨zFr_refl, fun _ _ _ => rfl, fun t ht => absurd ht (by omega)⟩
  · rintro j ⟨y, A⟩ hj hcnt ⟨h1, h2, h3⟩
    dsimp only at *
    subst hcnt
    rw [gb_X11_law_116]
    simp only [show ((40 : Int) + (j : Int)).toNat = 40 + j by omega, Int.toNat_natCast]
    refine zO_brn ⟨by omega, by omega⟩ ⟨by omega, by omega⟩ (by omega) (zO_gd (by omega) (zO_gd (by omega) (zO_lte (fun B eB => zO_gd (by omega) (zO_gd (by omega) (zO_lte (fun C eC => zO_gd (by omega) (zO_gd (by omega) (zO_lte (fun D eD => zO_gd (by omega) (zO_gd (by omega) (zO_lte (fun E eE => zO_gd (by omega) (zO_gd (by omega) (zO_lte (fun F eF => zO_gd (by omega) (zO_gd (by omega) (zO_lte (fun G eG => ?_)))))))))))))))))))
    have x8 : ∀ t, G 98 t = if t = j then M 98 (40 + j) else A 98 t := fun t => by
      rw [eG, zst_ne (by decide), eF, zst_ne (by decide), eE, zst_ne (by decide), eD, zst_ne (by decide), eC, zst_ne (by decide), eB, zst_r]
      by_cases e : t = j
      · rw [if_pos ⟨rfl, e⟩, if_pos e, h2 98 _ (by omega)]
      · rw [if_neg (fun h => e h.2), if_neg e]
    have x9 : ∀ t, G 99 t = if t = j then M 99 (40 + j) else A 99 t := fun t => by
      rw [eG, zst_ne (by decide), eF, zst_ne (by decide), eE, zst_ne (by decide), eD, zst_ne (by decide), eC, zst_r]
      by_cases e : t = j
      · rw [if_pos ⟨rfl, e⟩, if_pos e, eB, zst_ne (by decide), h2 99 _ (by omega)]
      · rw [if_neg (fun h => e h.2), if_neg e, eB, zst_ne (by decide)]
    have x10 : ∀ t, G 100 t = if t = j then M 100 (40 + j) else A 100 t := fun t => by
      rw [eG, zst_ne (by decide), eF, zst_ne (by decide), eE, zst_ne (by decide), eD, zst_r]
      by_cases e : t = j
      · rw [if_pos ⟨rfl, e⟩, if_pos e, eC, zst_ne (by decide), eB, zst_ne (by decide), h2 100 _ (by omega)]
      · rw [if_neg (fun h => e h.2), if_neg e, eC, zst_ne (by decide), eB, zst_ne (by decide)]
    have x11 : ∀ t, G 101 t = if t = j then M 101 (40 + j) else A 101 t := fun t => by
      rw [eG, zst_ne (by decide), eF, zst_ne (by decide), eE, zst_r]
      by_cases e : t = j
      · rw [if_pos ⟨rfl, e⟩, if_pos e, eD, zst_ne (by decide), eC, zst_ne (by decide), eB, zst_ne (by decide), h2 101 _ (by omega)]
      · rw [if_neg (fun h => e h.2), if_neg e, eD, zst_ne (by decide), eC, zst_ne (by decide), eB, zst_ne (by decide)]
    have x12 : ∀ t, G 102 t = if t = j then M 102 (40 + j) - 1000 else A 102 t := fun t => by
      rw [eG, zst_ne (by decide), eF, zst_r]
      by_cases e : t = j
      · rw [if_pos ⟨rfl, e⟩, if_pos e, eE, zst_ne (by decide), eD, zst_ne (by decide), eC, zst_ne (by decide), eB, zst_ne (by decide), h2 102 _ (by omega)]
      · rw [if_neg (fun h => e h.2), if_neg e, eE, zst_ne (by decide), eD, zst_ne (by decide), eC, zst_ne (by decide), eB, zst_ne (by decide)]
    have x13 : ∀ t, G 103 t = if t = j then M 103 (40 + j) - 1000 else A 103 t := fun t => by
      rw [eG, zst_r]
      by_cases e : t = j
      · rw [if_pos ⟨rfl, e⟩, if_pos e, eF, zst_ne (by decide), eE, zst_ne (by decide), eD, zst_ne (by decide), eC, zst_ne (by decide), eB, zst_ne (by decide), h2 103 _ (by omega)]
      · rw [if_neg (fun h => e h.2), if_neg e, eF, zst_ne (by decide), eE, zst_ne (by decide), eD, zst_ne (by decide), eC, zst_ne (by decide), eB, zst_ne (by decide)]
    have xo : ∀ q, q < 98 ∨ 103 < q → G q = A q := fun q hq => by
      rw [eG, zst_ne (by omega), eF, zst_ne (by omega), eE, zst_ne (by omega), eD, zst_ne (by omega), eC, zst_ne (by omega), eB, zst_ne (by omega)]
    clear eB eC eD eE eF eG
    refine zO_lt (zO_inl ⟨by dsimp only; omega, fun q hq => ?_, fun q t ht => ?_, fun t ht => ⟨fun q u v => ?_, fun q u v => ?_⟩⟩)
    · dsimp only
      rw [xo q (by simp at hq; omega)]
      exact h1 q hq
    · dsimp only
      by_cases e : q < 98 ∨ 103 < q
      · rw [xo q e]; exact h2 q t (by omega)
      · rcases (show q = 98 ∨ q = 99 ∨ q = 100 ∨ q = 101 ∨ q = 102 ∨ q = 103 by omega) with rfl | rfl | rfl | rfl | rfl | rfl
        · rw [x8, if_neg (by omega)]; exact h2 _ t (by omega)
        · rw [x9, if_neg (by omega)]; exact h2 _ t (by omega)
        · rw [x10, if_neg (by omega)]; exact h2 _ t (by omega)
        · rw [x11, if_neg (by omega)]; exact h2 _ t (by omega)
        · rw [x12, if_neg (by omega)]; exact h2 _ t (by omega)
        · rw [x13, if_neg (by omega)]; exact h2 _ t (by omega)
    · dsimp only
      by_cases e : t = j
      · subst e
        rcases (show q = 98 ∨ q = 99 ∨ q = 100 ∨ q = 101 by omega) with rfl | rfl | rfl | rfl
        · rw [x8, if_pos rfl]
        · rw [x9, if_pos rfl]
        · rw [x10, if_pos rfl]
        · rw [x11, if_pos rfl]
      · have := (h3 t (by omega)).1 q u v
        rcases (show q = 98 ∨ q = 99 ∨ q = 100 ∨ q = 101 by omega) with rfl | rfl | rfl | rfl
        · rw [x8, if_neg e]; exact this
        · rw [x9, if_neg e]; exact this
        · rw [x10, if_neg e]; exact this
        · rw [x11, if_neg e]; exact this
    · dsimp only
      by_cases e : t = j
      · subst e
        rcases (show q = 102 ∨ q = 103 by omega) with rfl | rfl
        · rw [x12, if_pos rfl]
        · rw [x13, if_pos rfl]
      · have := (h3 t (by omega)).2 q u v
        rcases (show q = 102 ∨ q = 103 by omega) with rfl | rfl
        · rw [x12, if_neg e]; exact this
        · rw [x13, if_neg e]; exact this
  · rintro ⟨y, A⟩ hcnt ⟨h1, h2, h3⟩
    dsimp only at *
    subst hcnt
    rw [gb_X11_law_116]
    exact zO_brp ⟨by omega, by omega⟩ ⟨by omega, by omega⟩ (by omega) (zO_inr ⟨h1, h3⟩)
theorem m_copy2 {i : Nat} {M : zM} : zO (zw2 (gb_X11_law_228 (zKn i)) zfu 0 M) (fun M' => zFr [104, 105, 106, 107] M M' ∧ ∀ q t, 104 ≤ q → q ≤ 107 → t < 1000 → M' q t = M q (1000 + t)) := by
  unfold zw2
  refine zO_for (fun s => s.1) 1000 (fun j s => zFr [104, 105, 106, 107] M s.2 ∧ (∀ q t, j ≤ t → s.2 q t = M q t) ∧ ∀ q t, 104 ≤ q → q ≤ 107 → t < j → s.2 q t = M q (1000 + t)) ?_ ?_ (by omega) 0 (by omega) rfl ⟨zFr_refl, fun _ _ _ => rfl, fun q t _ _ ht => absurd ht (by omega)⟩
  · rintro j ⟨y, A⟩ hj hcnt ⟨h1, h2, h3⟩
    dsimp only at *
    subst hcnt
    rw [gb_X11_law_228]
    simp only [show ((1000 : Int) + (j : Int)).toNat = 1000 + j by omega, Int.toNat_natCast]
    refine zO_brn ⟨by omega, by omega⟩ ⟨by omega, by omega⟩ (by omega) (zO_gd (by omega) (zO_gd (by omega) (zO_lte (fun B eB => zO_gd (by omega) (zO_gd (by omega) (zO_lte (fun C eC => zO_gd (by omega) (zO_gd (by omega) (zO_lte (fun D eD => zO_gd (by omega) (zO_gd (by omega) (zO_lte (fun E eE => ?_)))))))))))))
    have x4 : ∀ t, E 104 t = if t = j then M 104 (1000 + j) else A 104 t := fun t => by
      rw [eE, zst_ne (by decide), eD, zst_ne (by decide), eC, zst_ne (by decide), eB, zst_r]
      by_cases e : t = j
      · rw [if_pos ⟨rfl, e⟩, if_pos e, h2 104 _ (by omega)]
      · rw [if_neg (fun h => e h.2), if_neg e]
    have x5 : ∀ t, E 105 t = if t = j then M 105 (1000 + j) else A 105 t := fun t => by
      rw [eE, zst_ne (by decide), eD, zst_ne (by decide), eC, zst_r]
      by_cases e : t = j
      · rw [if_pos ⟨rfl, e⟩, if_pos e, eB, zst_ne (by decide), h2 105 _ (by omega)]
      · rw [if_neg (fun h => e h.2), if_neg e, eB, zst_ne (by decide)]
    have x6 : ∀ t, E 106 t = if t = j then M 106 (1000 + j) else A 106 t := fun t => by
      rw [eE, zst_ne (by decide), eD, zst_r]
      by_cases e : t = j
      · rw [if_pos ⟨rfl, e⟩, if_pos e, eC, zst_ne (by decide), eB, zst_ne (by decide), h2 106 _ (by omega)]
      · rw [if_neg (fun h => e h.2), if_neg e, eC, zst_ne (by decide), eB, zst_ne (by decide)]
    have x7 : ∀ t, E 107 t = if t = j then M 107 (1000 + j) else A 107 t := fun t => by
      rw [eE, zst_r]
      by_cases e : t = j
      · rw [if_pos ⟨rfl, e⟩, if_pos e, eD, zst_ne (by decide), eC, zst_ne (by decide), eB, zst_ne (by decide), h2 107 _ (by omega)]
      · rw [if_neg (fun h => e h.2), if_neg e, eD, zst_ne (by decide), eC, zst_ne (by decide), eB, zst_ne (by decide)]
    have xo : ∀ q, q < 104 ∨ 107 < q → E q = A q := fun q hq => by
      rw [eE, zst_ne (by omega), eD, zst_ne (by omega), eC, zst_ne (by omega), eB, zst_ne (by omega)]
    clear eB eC eD eE
    refine zO_lt (zO_inl ⟨by dsimp only; omega, fun q hq => ?_, fun q t ht => ?_, fun q t u v ht => ?_⟩)
    · dsimp only
      rw [xo q (by simp at hq; omega)]
      exact h1 q hq
    · dsimp only
      by_cases e : q < 104 ∨ 107 < q
      · rw [xo q e]; exact h2 q t (by omega)
      · rcases (show q = 104 ∨ q = 105 ∨ q = 106 ∨ q = 107 by omega) with rfl | rfl | rfl | rfl
        · rw [x4, if_neg (by omega)]; exact h2 _ t (by omega)
        · rw [x5, if_neg (by omega)]; exact h2 _ t (by omega)
        · rw [x6, if_neg (by omega)]; exact h2 _ t (by omega)
        · rw [x7, if_neg (by omega)]; exact h2 _ t (by omega)
    · dsimp only
      by_cases e : t = j
      · subst e
        rcases (show q = 104 ∨ q = 105 ∨ q = 106 ∨ q = 107 by omega) with rfl | rfl | rfl | rfl
        · rw [x4, if_pos rfl]
        · rw [x5, if_pos rfl]
        · rw [x6, if_pos rfl]
        · rw [x7, if_pos rfl]
      · have := h3 q t u v (by omega)
        rcases (show q = 104 ∨ q = 105 ∨ q = 106 ∨ q = 107 by omega) with rfl | rfl | rfl | rfl
        · rw [x4, if_neg e]; exact this
        · rw [x5, if_neg e]; exact this
        · rw [x6, if_neg e]; exact this
        · rw [x7, if_neg e]; exact this
  · rintro ⟨y, A⟩ hcnt ⟨h1, h2, h3⟩
    dsimp only at *
    subst hcnt
    rw [gb_X11_law_228]
    exact zO_brp ⟨by omega, by omega⟩ ⟨by omega, by omega⟩ (by omega) (zO_inr ⟨h1, h3⟩)
theorem zMk_sh {M M' : zM} : ∀ (c : List zStp) (f : Nat), 1000 ≤ f → zMk M f c → (∀ q t, 104 ≤ q → q ≤ 107 → t + 1000 < f + c.length → M' q t = M q (1000 + t)) → zMk M' (f - 1000) c := by
  intro c
  induction c with
  | nil => intro _ _ _ _; exact trivial
  | cons s c ih =>
    intro f hf h e
    rw [List.length_cons] at e
    have h2 := ih (f + 1) (by omega) h.2 (fun q t a d g => e q t a d (by omega))
    rw [show f + 1 - 1000 = f - 1000 + 1 by omega] at h2
    refine ⟨?_, h2⟩
    rw [e 104 (f - 1000) (by omega) (by omega) (by omega), e 105 (f - 1000) (by omega) (by omega) (by omega), e 106 (f - 1000) (by omega) (by omega) (by omega), e 107 (f - 1000) (by omega) (by omega) (by omega), show 1000 + (f - 1000) = f by omega]
    exact h.1
theorem zRh_low {M M' : zM} {W : Nat} (hW : W ≤ 1700) : ∀ R : List zRu, R.length ≤ 40 → zRh M W R → (∀ t, t < 40 → (∀ q, 98 ≤ q → q ≤ 101 → M' q t = M q (40 + t)) ∧ ∀ q, 102 ≤ q → q ≤ 103 → M' q t = M q (40 + t) - 1000) → (∀ q t, 104 ≤ q → q ≤ 107 → t < 1000 → M' q t = M q (1000 + t)) → zRw M' 0 700 R := by
  intro R
  induction R with
  | nil => intro _ _ _ _; exact trivial
  | cons r R ih =>
    rintro hl ⟨⟨⟨h1, h2, h3, h4, f, h5, h6, h7, h8⟩, h9⟩, h10⟩ e1 e2
    rw [List.length_cons] at hl
    obtain ⟨g1, g2⟩ := e1 R.length (by omega)
    refine ⟨⟨?_, ?_, ?_, ?_, f - 1000, ?_, ?_, ?_, ?_⟩, ih (by omega) h10 e1 e2⟩
    · rw [Nat.zero_add, g1 98 (by omega) (by omega)]; exact h1
    · rw [Nat.zero_add, g1 99 (by omega) (by omega)]; exact h2
    · rw [Nat.zero_add, g1 100 (by omega) (by omega), g1 101 (by omega) (by omega)]; exact h3
    · rw [Nat.zero_add, g1 100 (by omega) (by omega)]; exact h4
    · rw [Nat.zero_add, g2 102 (by omega) (by omega), h5]; omega
    · rw [Nat.zero_add, g2 103 (by omega) (by omega), h6]; omega
    · omega
    · exact zMk_sh _ f (by omega) h8 (fun q t a c d => e2 q t a c (by omega))

/-! law: the reference's first, last, SEA -/
abbrev zMt (kind : Int) (w : Nat → Int) (r : zRu) : Prop := r.1 = kind ∧ hv w r.2.2.2.2 = 1
theorem zFi_none {kind : Int} {w : Nat → Int} : ∀ (R : List zRu) (o : Int), (∀ l r, rAt R l = some r → ¬ zMt kind w r) → zFi kind w o R = o := by
  intro R
  induction R with
  | nil => intro o _; rfl
  | cons r R ih =>
    intro o h
    show zFi kind w (if zMt kind w r then r.2.1 else o) R = o
    rw [if_neg (h R.length r rAt_top)]
    exact ih o (fun l r' hl => h l r' (by rw [rAt_cons (rAt_lt R l r' hl).1]; exact hl))
theorem zFi_at {kind : Int} {w : Nat → Int} {j : Nat} {r : zRu} (hm : zMt kind w r) : ∀ (R : List zRu) (o : Int), rAt R j = some r → (∀ l r', l < j → rAt R l = some r' → ¬ zMt kind w r') → zFi kind w o R = r.2.1 := by
  intro R
  induction R with
  | nil => intro o h _; cases h
  | cons r0 R ih =>
    intro o h hl
    show zFi kind w (if zMt kind w r0 then r0.2.1 else o) R = _
    by_cases e : j = R.length
    · subst e
      rw [rAt_top] at h
      cases h
      rw [if_pos hm]
      exact zFi_none R _ (fun l r' h' => hl l r' (rAt_lt R l r' h').1 (by rw [rAt_cons (rAt_lt R l r' h').1]; exact h'))
    · have hj := (rAt_lt _ _ _ h).1
      rw [List.length_cons] at hj
      rw [rAt_cons (by omega)] at h
      exact ih _ h (fun l r' h1 h2 => hl l r' h1 (by rw [rAt_cons (rAt_lt R l r' h2).1]; exact h2))
/-- ranges of a rule -/
def zRg (r : zRu) : Prop := 0 ≤ r.1 ∧ r.1 ≤ 6 ∧ 0 ≤ r.2.1 ∧ r.2.1 ≤ 100 ∧ (r.1 ≠ 4 → r.1 ≠ 5 → r.2.1 ≤ 99) ∧ (r.1 = 6 → r.2.1 ≤ 10) ∧ 0 ≤ r.2.2.1 ∧ r.2.2.1 ≤ r.2.2.2.1 + 99 ∧ r.2.2.1 ≤ 99 ∧ (r.1 = 0 → r.2.2.1 ≤ r.2.2.2.1) ∧ 0 ≤ r.2.2.2.1 ∧ r.2.2.2.1 ≤ 99 ∧ dp r.2.2.2.2 0
theorem g11_firstR {i : Nat} {R : List zRu} {kind o : Int} {M : zM} (hR : R.length ≤ 40) (h97 : M 97 0 = (R.length : Int)) (hw : zRw M 0 700 R) (hg : ∀ r, r ∈ R → zRg r) (hk : 1 ≤ kind ∧ kind ≤ 4) (hwd : zWd (M 111)) : zO (g_X11_first (zKn i) kind o M) (fun u => u.2 = zFi kind (M 111) o R ∧ zFr [112] M u.1) := by
  unfold g_X11_first zsp2
  refine zO_s1 ?_
  unfold zw2
  refine zO_for (fun s => s.1) R.length (fun j s => zFr [112] M s.2 ∧ ∀ l r, l < j → rAt R l = some r → ¬ zMt kind (M 111) r) ?_ ?_ (by omega) 0 (by omega) rfl ⟨zFr_refl, fun l r h => absurd h (by omega)⟩
  · rintro j ⟨y, A⟩ hj hcnt ⟨h1, h2⟩
    dsimp only at *
    subst hcnt
    obtain ⟨r, hr⟩ := rAt_some R j hj
    obtain ⟨k1, k2, k3, k4, f, k5, k6, k7, k8⟩ := zRw_at R j r hw hr
    have hgr := hg r (rAt_lt R j r hr).2
    have rd : dp r.2.2.2.2 0 := hgr.2.2.2.2.2.2.2.2.2.2.2.2
    have kz := hgr.1
    have kz' := hgr.2.1
    have fwd : ¬ zMt kind (M 111) r → ∀ l r', l < j + 1 → rAt R l = some r' → ¬ zMt kind (M 111) r' := by
      intro hn l r' hl hr'
      by_cases e : l = j
      · subst e
        rw [hr] at hr'
        cases hr'
        exact hn
      · exact h2 l r' (by omega) hr'
    rw [gb_X11_first_2]
    simp only [Int.toNat_zero, Int.toNat_natCast, h1 97 (by decide), h1 98 (by decide), h97, k1]
    refine zO_gd (by omega) (zO_brn ⟨by omega, by omega⟩ ⟨by omega, by omega⟩ (by omega) (zO_gd (by omega) (zO_br ⟨by omega, by omega⟩ ⟨by omega, by omega⟩ (fun d => ?_) (fun d => ?_))))
    · exact zO_lt (zO_inl ⟨by dsimp only; omega, h1, fwd (fun h => d h.1)⟩)
    · have hh := g11_holds (i := i) (r := j) (f := f) (c := r.2.2.2.2) (M := A) (by omega) (by rw [h1 102 (by decide)]; exact k5) (by rw [h1 103 (by decide)]; exact k6) (by omega) (zMk_c _ _ k8 (fun q t a b _ _ => by rw [h1 q (by simp; omega)])) rd (by rw [h1 111 (by decide)]; exact hwd)
      rw [h1 111 (by decide)] at hh
      refine zO_bdq hh ?_
      rintro B v ⟨rfl, b2⟩
      have hvr := hv_r (w := M 111) rd
      refine zO_br ⟨by omega, by omega⟩ (by omega) (fun e => ?_) (fun e => ?_)
      · exact zO_lt (zO_inl ⟨by dsimp only; omega, h1.tr b2, fwd (fun h => by have := h.2; omega)⟩)
      · refine zO_inr (show zO _ _ from ?_)
        have hm : zMt kind (M 111) r := ⟨by omega, by omega⟩
        refine zO_gd (by omega) (zO_some ⟨?_, h1.tr b2⟩)
        dsimp only
        have eB : B 99 = M 99 := (h1.tr b2) 99 (by decide)
        rw [Int.toNat_natCast, eB, k2, zFi_at hm R o hr (fun l r' hl hr' => h2 l r' hl hr')]
  · rintro ⟨y, A⟩ hcnt ⟨h1, h2⟩
    dsimp only at *
    subst hcnt
    rw [gb_X11_first_2]
    simp only [Int.toNat_zero, h1 97 (by decide), h97]
    refine zO_gd (by omega) (zO_brp ⟨by omega, by omega⟩ ⟨by omega, by omega⟩ (by omega) (zO_inr (show zO _ _ from zO_some ⟨?_, h1⟩)))
    exact (zFi_none R o (fun l r hl => h2 l r (rAt_lt R l r hl).1 hl)).symm
/-- the last one of a kind -/
def lst (kind how : Int) (R : List zRu) : Nat → Int
  | 0 => 0
  | j + 1 => match rAt R j with
    | some r => if r.1 = kind ∧ (how < 0 ∨ r.2.2.1 = how) then r.2.1 else lst kind how R j
    | none => lst kind how R j
theorem lst_s {kind how : Int} {R : List zRu} {j : Nat} {r : zRu} (h : rAt R j = some r) : lst kind how R (j + 1) = if r.1 = kind ∧ (how < 0 ∨ r.2.2.1 = how) then r.2.1 else lst kind how R j := by
  show (match rAt R j with
    | some r => if r.1 = kind ∧ (how < 0 ∨ r.2.2.1 = how) then r.2.1 else lst kind how R j
    | none => lst kind how R j) = _
  rw [h]
theorem lst_c {kind how : Int} {r : zRu} {R : List zRu} : ∀ j, j ≤ R.length → lst kind how (r :: R) j = lst kind how R j := by
  intro j
  induction j with
  | zero => intro _; rfl
  | succ j ih =>
    intro h
    obtain ⟨q, hq⟩ := rAt_some R j (by omega)
    rw [lst_s hq, lst_s (by rw [rAt_cons (by omega)]; exact hq), ih (by omega)]
theorem lst_6 : ∀ R : List zRu, lst 6 (-1) R R.length = rCat R := by
  intro R
  induction R with
  | nil => rfl
  | cons r R ih =>
    rw [List.length_cons, lst_s rAt_top, lst_c R.length (Nat.le_refl _), ih]
    show _ = if r.1 = 6 then r.2.1 else rCat R
    by_cases c : r.1 = 6
    · rw [if_pos ⟨c, Or.inl (by omega)⟩, if_pos c]
    · rw [if_neg (fun h => c h.1), if_neg c]
theorem lst_5 {h : Int} (hh : 0 ≤ h) : ∀ R : List zRu, lst 5 h R R.length = rCar h R := by
  intro R
  induction R with
  | nil => rfl
  | cons r R ih =>
    rw [List.length_cons, lst_s rAt_top, lst_c R.length (Nat.le_refl _), ih]
    show _ = if r.1 = 5 ∧ r.2.2.1 = h then r.2.1 else rCar h R
    by_cases c : r.1 = 5 ∧ r.2.2.1 = h
    · rw [if_pos ⟨c.1, Or.inr c.2⟩, if_pos c]
    · rw [if_neg (fun g => c ⟨g.1, by rcases g.2 with g | g <;> omega⟩), if_neg c]
theorem g11_lastR {i : Nat} {R : List zRu} {kind how : Int} {M : zM} (hR : R.length ≤ 40) (h97 : M 97 0 = (R.length : Int)) (hw : zRw M 0 700 R) (hg : ∀ r, r ∈ R → zRg r) (hk : (kind = 6 ∧ how = -1) ∨ (kind = 5 ∧ 0 ≤ how ∧ how ≤ 2)) : g_X11_last (zKn i) kind how M = some (lst kind how R R.length) := by
  unfold g_X11_last zw2
  have hl : zwh (fun t : Int × Int => gb_X11_last_5 (zKn i) kind how M t.1 t.2) zfu (0, 0) = some (lst kind how R R.length) := by
    refine zO_up (F := fun t : Int × Int => gb_X11_last_5 (zKn i) kind how M t.1 t.2) (fun j => (lst kind how R j, (j : Int))) R.length ?_ ?_ (by omega) 0 (by omega)
    · intro j hj
      obtain ⟨r, hr⟩ := rAt_some R j hj
      obtain ⟨k1, k2, k3, k4, f, k5, k6, k7, k8⟩ := zRw_at R j r hw hr
      have hgr := hg r (rAt_lt R j r hr).2
      have kz := hgr.1
      have kz' := hgr.2.1
      have kf := hgr.2.2.2.2.2.2.1
      have kf' := hgr.2.2.2.2.2.2.2.2.1
      apply zO_get
      dsimp only
      rw [gb_X11_last_5]
      simp only [Int.toNat_zero, Int.toNat_natCast, h97, k1]
      rw [lst_s hr, show ((j + 1 : Nat) : Int) = (j : Int) + 1 by omega]
      refine zO_gd (by omega) (zO_brn ⟨by omega, by omega⟩ ⟨by omega, by omega⟩ (by omega) (zO_gd (by omega) (zO_br ⟨by omega, by omega⟩ ⟨by omega, by omega⟩ (fun d => ?_) (fun d => ?_))))
      · rw [if_neg (fun h => d h.1)]
        exact zO_lt (zO_some rfl)
      · have d' : r.1 = kind := Decidable.byContradiction d
        refine zO_sp1 ?_
        rcases hk with ⟨rfl, rfl⟩ | ⟨rfl, g1, g2⟩
        · rw [if_pos ⟨d', Or.inl (by omega)⟩]
          refine zO_brp (by omega) (by omega) (by omega) (zO_inl (zO_gd (by omega) (zO_lt (zO_lt (zO_some ?_)))))
          rw [Int.toNat_natCast, k2]
        · refine zO_brn ⟨by omega, by omega⟩ ⟨by omega, by omega⟩ (by omega) (zO_gd (by omega) ?_)
          have k4' := k4 d'
          refine zO_br ⟨by omega, by omega⟩ ⟨by omega, by omega⟩ (fun e => ?_) (fun e => ?_)
          · rw [if_neg (fun h => by rcases h.2 with h | h <;> omega)]
            exact zO_lt (zO_inr (show zO _ _ from zO_some rfl))
          · rw [if_pos ⟨d', Or.inr (by omega)⟩]
            refine zO_inl (zO_gd (by omega) (zO_lt (zO_lt (zO_some ?_))))
            rw [Int.toNat_natCast, k2]
    · apply zO_get
      dsimp only
      rw [gb_X11_last_5]
      simp only [Int.toNat_zero, h97]
      exact zO_gd (by omega) (zO_brp ⟨by omega, by omega⟩ ⟨by omega, by omega⟩ (by omega) (zO_some rfl))
  rw [hl]
  rfl
/-- SEA: the latest of the rules up to an AGE -/
def okB (o : Option zRu) (r : zRu) : Bool := match o with
  | none => true
  | some q => decide (q.2.1 ≤ r.2.1)
def rB (a : Int) : List zRu → Option zRu
  | [] => none
  | r :: R => if r.1 = 0 ∧ r.2.1 ≤ a ∧ okB (rB a R) r = true then some r else rB a R
theorem rB_le {a : Int} : ∀ (R : List zRu) (q : zRu), rB a R = some q → q.1 = 0 ∧ q.2.1 ≤ a ∧ q ∈ R := by
  intro R
  induction R with
  | nil => intro q h; cases h
  | cons r R ih =>
    intro q h
    unfold rB at h
    split at h
    · rename_i c
      cases h
      exact ⟨c.1, c.2.1, List.mem_cons_self ..⟩
    · obtain ⟨h1, h2, h3⟩ := ih q h
      exact ⟨h1, h2, List.mem_cons_of_mem _ h3⟩
theorem rSe_none {a : Int} : ∀ R : List zRu, rSe a R = none → rB a R = rB (a - 1) R := by
  intro R
  induction R with
  | nil => intro _; rfl
  | cons r R ih =>
    intro h
    unfold rSe at h
    by_cases c : r.1 = 0 ∧ r.2.1 = a
    · rw [if_pos c] at h; cases h
    · rw [if_neg c] at h
      unfold rB
      rw [ih h]
      by_cases d : r.1 = 0
      · have : (r.2.1 ≤ a) = (r.2.1 ≤ a - 1) := propext ⟨fun h => by have : r.2.1 ≠ a := fun e => c ⟨d, e⟩; omega, fun h => by omega⟩
        simp only [this]
      · rw [if_neg (fun h => d h.1), if_neg (fun h => d h.1)]
theorem rSe_some {a : Int} {v : Int × Int} : ∀ R : List zRu, rSe a R = some v → ∃ q, rB a R = some q ∧ q.2.1 = a ∧ (q.2.2.1, q.2.2.2.1) = v := by
  intro R
  induction R with
  | nil => intro h; cases h
  | cons r R ih =>
    intro h
    unfold rSe at h
    by_cases c : r.1 = 0 ∧ r.2.1 = a
    · rw [if_pos c] at h
      refine ⟨r, ?_, c.2, Option.some.inj h⟩
      unfold rB
      refine if_pos ⟨c.1, by omega, ?_⟩
      cases hb : rB a R with
      | none => rfl
      | some q =>
        have := (rB_le R q hb).2.1
        exact decide_eq_true (by omega)
    · rw [if_neg c] at h
      obtain ⟨q, h1, h2, h3⟩ := ih h
      refine ⟨q, ?_, h2, h3⟩
      unfold rB
      rw [if_neg ?_, h1]
      rintro ⟨d1, d2, d3⟩
      rw [h1] at d3
      have := of_decide_eq_true (show decide (q.2.1 ≤ r.2.1) = true from d3)
      exact c ⟨d1, by omega⟩
/-- the LEVELS carried on are those of the latest -/
theorem gL_rB {R : List zRu} (hg : ∀ r, r ∈ R → zRg r) : ∀ a : Nat, gL R (a + 1) = match rB (a : Int) R with
    | none => (0, 0)
    | some q => (q.2.2.1, q.2.2.2.1) := by
  intro a
  induction a with
  | zero =>
    show (rSe ((0 : Nat) : Int) R).getD (gL R 0) = _
    cases hs : rSe ((0 : Nat) : Int) R with
    | some v =>
      obtain ⟨q, h1, _, h3⟩ := rSe_some R hs
      rw [h1]
      exact h3.symm
    | none =>
      rw [rSe_none R hs]
      cases hb : rB (((0 : Nat) : Int) - 1) R with
      | none => rfl
      | some q =>
        obtain ⟨_, h2, h3⟩ := rB_le R q hb
        have := (hg q h3).2.2.1
        omega
  | succ a ih =>
    show (rSe ((a + 1 : Nat) : Int) R).getD (gL R (a + 1)) = _
    cases hs : rSe ((a + 1 : Nat) : Int) R with
    | some v =>
      obtain ⟨q, h1, _, h3⟩ := rSe_some R hs
      rw [h1]
      exact h3.symm
    | none =>
      rw [rSe_none R hs, show ((a + 1 : Nat) : Int) - 1 = (a : Int) by omega]
      exact ih
def bst (a : Int) (R : List zRu) : Nat → Option (Nat × zRu)
  | 0 => none
  | j + 1 => match rAt R j with
    | some r => if r.1 = 0 ∧ r.2.1 ≤ a ∧ okB ((bst a R j).map Prod.snd) r = true then some (j, r) else bst a R j
    | none => bst a R j
theorem bst_s {a : Int} {R : List zRu} {j : Nat} {r : zRu} (h : rAt R j = some r) : bst a R (j + 1) = if r.1 = 0 ∧ r.2.1 ≤ a ∧ okB ((bst a R j).map Prod.snd) r = true then some (j, r) else bst a R j := by
  show (match rAt R j with
    | some r => if r.1 = 0 ∧ r.2.1 ≤ a ∧ okB ((bst a R j).map Prod.snd) r = true then some (j, r) else bst a R j
    | none => bst a R j) = _
  rw [h]
theorem bst_r {a : Int} {R : List zRu} : ∀ j, j ≤ R.length → ∀ q, bst a R j = some q → q.1 < j ∧ rAt R q.1 = some q.2 := by
  intro j
  induction j with
  | zero => intro _ q h; cases h
  | succ j ih =>
    intro hj q h
    obtain ⟨r, hr⟩ := rAt_some R j (by omega)
    rw [bst_s hr] at h
    split at h
    · cases h
      exact ⟨by dsimp only; omega, hr⟩
    · have := ih (by omega) q h
      exact ⟨by omega, this.2⟩
theorem bst_c {a : Int} {r : zRu} {R : List zRu} : ∀ j, j ≤ R.length → bst a (r :: R) j = bst a R j := by
  intro j
  induction j with
  | zero => intro _; rfl
  | succ j ih =>
    intro h
    obtain ⟨q, hq⟩ := rAt_some R j (by omega)
    rw [bst_s hq, bst_s (by rw [rAt_cons (by omega)]; exact hq), ih (by omega)]
theorem bst_rB {a : Int} : ∀ R : List zRu, (bst a R R.length).map Prod.snd = rB a R := by
  intro R
  induction R with
  | nil => rfl
  | cons r R ih =>
    rw [List.length_cons, bst_s rAt_top, bst_c R.length (Nat.le_refl _)]
    unfold rB
    rw [← ih]
    by_cases c : r.1 = 0 ∧ r.2.1 ≤ a ∧ okB ((bst a R R.length).map Prod.snd) r = true
    · rw [if_pos c, if_pos c]; rfl
    · rw [if_neg c, if_neg c]
theorem g11_seaR {i a : Nat} {R : List zRu} {M : zM} (hR : R.length ≤ 40) (h97 : M 97 0 = (R.length : Int)) (hw : zRw M 0 700 R) (hg : ∀ r, r ∈ R → zRg r) (ha : a < 100) : g_X11_findSea (zKn i) (a : Int) M = some (zst (zst M 76 48 (gL R (a + 1)).1) 76 49 (gL R (a + 1)).2) := by
  have hl : zwh (fun t : Int × Int => gb_X11_findSea_4 (zKn i) (a : Int) M t.1 t.2) zfu (-1, 0) = some (match bst (a : Int) R R.length with | none => -1 | some q => (q.1 : Int)) := by
    refine zO_up (F := fun t : Int × Int => gb_X11_findSea_4 (zKn i) (a : Int) M t.1 t.2) (fun j => ((match bst (a : Int) R j with | none => (-1 : Int) | some q => (q.1 : Int)), (j : Int))) R.length ?_ ?_ (by omega) 0 (by omega)
    · intro j hj
      obtain ⟨r, hr⟩ := rAt_some R j hj
      obtain ⟨k1, k2, k3, k4, f, k5, k6, k7, k8⟩ := zRw_at R j r hw hr
      have hgr := hg r (rAt_lt R j r hr).2
      have kz := hgr.1
      have kz' := hgr.2.1
      have kn := hgr.2.2.1
      have kn' := hgr.2.2.2.1
      apply zO_get
      dsimp only
      rw [gb_X11_findSea_4]
      simp only [Int.toNat_zero, Int.toNat_natCast, h97, k1, k2]
      rw [bst_s hr, show ((j + 1 : Nat) : Int) = (j : Int) + 1 by omega]
      refine zO_gd (by omega) (zO_brn ⟨by omega, by omega⟩ ⟨by omega, by omega⟩ (by omega) (zO_gd (by omega) (zO_br ⟨by omega, by omega⟩ ⟨by omega, by omega⟩ (fun d => ?_) (fun d => ?_))))
      · rw [if_neg (fun h => d h.1)]
        exact zO_lt (zO_some rfl)
      · have d' : r.1 = 0 := Decidable.byContradiction d
        refine zO_gd (by omega) (zO_br ⟨by omega, by omega⟩ ⟨by omega, by omega⟩ (fun e => ?_) (fun e => ?_))
        · rw [if_neg (fun h => by omega)]
          exact zO_lt (zO_some rfl)
        · cases hb : bst (a : Int) R j with
          | none =>
            rw [if_pos ⟨d', by omega, rfl⟩]
            dsimp only
            exact zO_brp (by omega) (by omega) (by omega) (zO_lt (zO_some rfl))
          | some q =>
            obtain ⟨q1, q2⟩ := bst_r j (by omega) q hb
            obtain ⟨l1, l2, _⟩ := zRw_at R q.1 q.2 hw q2
            have hgq := hg q.2 (rAt_lt R q.1 q.2 q2).2
            have qn := hgq.2.2.1
            have qn' := hgq.2.2.2.1
            dsimp only
            refine zO_brn ⟨by omega, by omega⟩ (by omega) (by omega) (zO_gd (by omega) (zO_gd (by omega) ?_))
            rw [Int.toNat_natCast, l2]
            refine zO_br ⟨by omega, by omega⟩ ⟨by omega, by omega⟩ (fun g => ?_) (fun g => ?_)
            · rw [if_neg (fun h => by have := of_decide_eq_true (show decide (q.2.2.1 ≤ r.2.1) = true from h.2.2); omega)]
              exact zO_lt (zO_some rfl)
            · rw [if_pos ⟨d', by omega, decide_eq_true (by omega)⟩]
              exact zO_lt (zO_some rfl)
    · apply zO_get
      dsimp only
      rw [gb_X11_findSea_4]
      simp only [Int.toNat_zero, h97]
      exact zO_gd (by omega) (zO_brp ⟨by omega, by omega⟩ ⟨by omega, by omega⟩ (by omega) (zO_some rfl))
  apply zO_get
  unfold g_X11_findSea zw2
  refine zO_b1e hl ?_
  have hbB := bst_rB (a := (a : Int)) R
  rw [gL_rB hg a, ← hbB]
  cases hb : bst (a : Int) R R.length with
  | none =>
    dsimp only [Option.map]
    refine zO_b1e (zbr_n (by omega) (by omega) (by omega)) (zO_lt (zO_brn (by omega) (by omega) (by omega) (zO_lt (zO_some rfl))))
  | some q =>
    dsimp only [Option.map]
    obtain ⟨q1, q2⟩ := bst_r R.length (Nat.le_refl _) q hb
    obtain ⟨l1, l2, l3, _⟩ := zRw_at R q.1 q.2 hw q2
    have qz : q.2.1 = 0 := by
      have : rB (a : Int) R = some q.2 := by rw [← hbB, hb]; rfl
      exact (rB_le R q.2 this).1
    obtain ⟨m1, m2⟩ := l3 qz
    refine zO_b1 (zO_brp ⟨by omega, by omega⟩ (by omega) (by omega) (zO_gd (by omega) (zO_some ?_)))
    rw [Int.toNat_natCast, m1]
    refine zO_lt (zO_brp ⟨by omega, by omega⟩ (by omega) (by omega) (zO_gd (by omega) (zO_lt (zO_some ?_))))
    rw [zst_ne (show (101 : Nat) ≠ 76 by decide), m2]

/-! law: rules, by themselves -/
abbrev zRu : Type := Int × Int × Int × Int × List zStp
abbrev zBd : Type := (zRu × Nat) ⊕ Nat
def pSea (b : Nat → Int) (n x : Nat) : zBd := if wN b n x 0 99 then (if wN b n (yE b n x) 0 99 then (if wI b n (yE b n (yE b n x)) 555 then (if wN b n (yE b n (yE b n (yE b n x))) (yV b n (yE b n x)) 99 then .inl ((0, yV b n x, yV b n (yE b n x), yV b n (yE b n (yE b n (yE b n x))), []), yE b n (yE b n (yE b n (yE b n x)))) else .inr (yE b n (yE b n (yE b n x)))) else .inl ((0, yV b n x, yV b n (yE b n x), yV b n (yE b n x), []), yE b n (yE b n x))) else .inr (yE b n x)) else .inr x
def pCar (b : Nat → Int) (n x : Nat) : zBd := if yHow b n x = -1 then .inr x else if wN b n (yE b n x) 0 100 then .inl ((5, yV b n (yE b n x), yHow b n x, 0, []), yE b n (yE b n x)) else .inr (yE b n x)
def pCat (b : Nat → Int) (n x : Nat) : zBd := if wN b n x 0 10 then .inl ((6, yV b n x, 0, 0, []), yE b n x) else .inr x
def pAsk (b : Nat → Int) (n : Nat) (r : Int) (x : Nat) : zBd := if wN b n x 0 (if r = 4 then 100 else 99) then (if wI b n (yE b n x) 249 then (match pCnd b n (yE b n (yE b n x)) with
  | .inl q => .inl ((r, yV b n x, 0, 0, q.1), q.2)
  | .inr e => .inr e) else .inl ((r, yV b n x, 0, 0, []), yE b n x)) else .inr x
def pBdy (b : Nat → Int) (n : Nat) (r : Int) (x : Nat) : zBd := if r = 0 then pSea b n x else if r = 5 then pCar b n x else if r = 6 then pCat b n x else pAsk b n r x
def pRul (b : Nat → Int) (n x : Nat) : zBd := if yRule b n x = -1 then .inr x else match pBdy b n (yRule b n x) (yE b n x) with
  | .inl q => if wS b n q.2 59 then .inl (q.1, yE b n q.2) else .inr q.2
  | .inr e => .inr e
def pLaw (b : Nat → Int) (n : Nat) : Nat → Nat → List zRu → List zRu ⊕ Nat
  | 0, x, R => if yK b n x = 0 then .inl R else .inr x
  | f + 1, x, R => if yK b n x = 0 then .inl R else match pRul b n x with
    | .inl q => pLaw b n f q.2 (q.1 :: R)
    | .inr e => .inr e
def aN : List zRu → Nat
  | [] => 0
  | r :: R => if 1 ≤ r.1 ∧ r.1 ≤ 4 then aN R + 1 else aN R
theorem aN_le : ∀ R : List zRu, aN R ≤ R.length := by
  intro R
  induction R with
  | nil => exact Nat.le_refl 0
  | cons r R ih =>
    show (if 1 ≤ r.1 ∧ r.1 ≤ 4 then aN R + 1 else aN R) ≤ (r :: R).length
    rw [List.length_cons]
    split <;> omega
def rCat : List zRu → Int
  | [] => 0
  | r :: R => if r.1 = 6 then r.2.1 else rCat R
def rCar (h : Int) : List zRu → Int
  | [] => 0
  | r :: R => if r.1 = 5 ∧ r.2.2.1 = h then r.2.1 else rCar h R
def rSe (a : Int) : List zRu → Option (Int × Int)
  | [] => none
  | r :: R => if r.1 = 0 ∧ r.2.1 = a then some (r.2.2.1, r.2.2.2.1) else rSe a R
/-! the class's rules -/
def zAsk (D c0 : Nat) (M : zM) : List zRu → Prop
  | [] => True
  | r :: R => (1 ≤ r.1 ∧ r.1 ≤ 4 → M (D + 1) (aN R) = r.1 ∧ M (D + 2) (aN R) = r.2.1 ∧ ∃ f : Nat, M (D + 3) (aN R) = (f : Int) ∧ M (D + 4) (aN R) = ((f + r.2.2.2.2.length : Nat) : Int) ∧ f + r.2.2.2.2.length ≤ c0 ∧ zCk (M (D + 5)) f r.2.2.2.2) ∧ zAsk D c0 M R
theorem zAsk_c {D c0 c1 : Nat} {M M' : zM} (hc : c0 ≤ c1) : ∀ R : List zRu, zAsk D c0 M R → (∀ q j, D + 1 ≤ q → q ≤ D + 4 → j < aN R → M' q j = M q j) → (∀ j, j < c0 → M' (D + 5) j = M (D + 5) j) → zAsk D c1 M' R := by
  intro R
  induction R with
  | nil => intro _ _ _; exact trivial
  | cons r R ih =>
    rintro ⟨h1, h2⟩ e1 e2
    have haN : aN (r :: R) = if 1 ≤ r.1 ∧ r.1 ≤ 4 then aN R + 1 else aN R := rfl
    refine ⟨fun h => ?_, ih h2 (fun q j a d f => e1 q j a d (by rw [haN]; split <;> omega)) e2⟩
    obtain ⟨g1, g2, f, g3, g4, g5, g6⟩ := h1 h
    rw [if_pos h] at haN
    rw [e1 (D + 1) (aN R) (by omega) (by omega) (by omega), e1 (D + 2) (aN R) (by omega) (by omega) (by omega), e1 (D + 3) (aN R) (by omega) (by omega) (by omega), e1 (D + 4) (aN R) (by omega) (by omega) (by omega)]
    exact ⟨g1, g2, f, g3, g4, by omega, zCk_c _ _ g6 (fun t a d => e2 t (by omega))⟩
/-- the draft holds these rules (the newest first) -/
def zCL (D c0 : Nat) (M : zM) (R : List zRu) : Prop := M D 1 = (aN R : Int) ∧ zAsk D c0 M R ∧ M D 13 = rCat R ∧ (∀ h : Nat, h < 3 → M (D + 11) h = rCar (h : Int) R) ∧ (∀ a : Nat, a < 100 → (rSe (a : Int) R = none → M (D + 8) a = 0) ∧ ∀ v, rSe (a : Int) R = some v → M (D + 8) a = 1 ∧ M (D + 6) a = v.1 ∧ M (D + 7) a = v.2 ∧ M (D + 9) a = 1) ∧ (∀ a, a < 100 → M (D + 9) a = 0 ∨ M (D + 9) a = 1) ∧ ∀ r, r ∈ R → ∀ a, a < 100 → zEd r.2.2.2.2 a → M (D + 9) a = 1
theorem zCL.fc {D c0 c1 : Nat} {M M' : zM} {R : List zRu} (hD : zDr D) (h : zCL D c0 M R) (f : zFc D c0 M M') (hc : c0 ≤ c1) : zCL D c1 M' R := by
  obtain ⟨h1, h2, h3, h4, h5, h6, h7⟩ := h
  obtain ⟨f1, f2, f3, f4, f5, f6⟩ := f
  have d : ∀ t, t ≠ 0 → t ≠ 5 → t ≠ 9 → M' (D + t) = M (D + t) := fun t a b c => f1 (D + t) (by rcases hD with rfl | rfl <;> (simp; omega))
  refine ⟨by rw [f3 1 (by decide)]; exact h1, zAsk_c hc R h2 (fun q j a b e => ?_) f4, by rw [f3 13 (by decide)]; exact h3, fun h hh => by rw [d 11 (by decide) (by decide) (by decide)]; exact h4 h hh, fun a ha => ?_, fun a ha => f6 a (h6 a ha), fun r hr a ha he => f5 a (h7 r hr a ha he)⟩
  · obtain ⟨t, rfl⟩ : ∃ t, q = D + t := ⟨q - D, by omega⟩
    rw [d t (by omega) (by omega) (by omega)]
  · rw [d 8 (by decide) (by decide) (by decide), d 6 (by decide) (by decide) (by decide), d 7 (by decide) (by decide) (by decide)]
    exact ⟨(h5 a ha).1, fun v hv => ⟨((h5 a ha).2 v hv).1, ((h5 a ha).2 v hv).2.1, ((h5 a ha).2 v hv).2.2.1, f5 a ((h5 a ha).2 v hv).2.2.2⟩⟩
def zFd (D : Nat) (M M' : zM) : Prop := (∀ q, q ≠ 2 → (q < D ∨ D + 11 < q) → M' q = M q) ∧ ∀ s, s < 3 ∨ 7 < s → M' 2 s = M 2 s
theorem zFd.rf {D : Nat} {M : zM} : zFd D M M := ⟨fun _ _ _ => rfl, fun _ _ => rfl⟩
theorem zFd.tr {D : Nat} {M M' M'' : zM} (h : zFd D M M') (h' : zFd D M' M'') : zFd D M M'' := ⟨fun q a b => (h'.1 q a b).trans (h.1 q a b), fun s a => (h'.2 s a).trans (h.2 s a)⟩
theorem zFc.fd {D c0 : Nat} {M M' : zM} (h : zFc D c0 M M') : zFd D M M' ∧ M' D 0 = M D 0 := ⟨⟨fun q a b => h.1 q (by simp; omega), h.2.1⟩, h.2.2.1 0 (by decide)⟩
def zBr (b : Nat → Int) (n D : Nat) (M : zM) (R : List zRu) (B : zBd) (r : zM × Int) : Prop := zFd D M r.1 ∧ r.1 D 0 = M D 0 ∧ match B with
  | .inl q => r.2 = 1 ∧ ∃ c1, zCS b n D c1 q.2 r.1 ∧ zCL D c1 r.1 (q.1 :: R)
  | .inr e => r.2 = 0 ∧ zTc b n e r.1 ∧ e ≤ n
theorem zTc.fr {b : Nat → Int} {n x : Nat} {M M' : zM} (h : zTc b n x M) (e : M' 2 = M 2) : zTc b n x M' := by
  unfold zTc at *
  rw [e]
  exact h
theorem zCS.fr {b : Nat → Int} {n D c0 x : Nat} {M M' : zM} (h : zCS b n D c0 x M) (e2 : M' 2 = M 2) (e3 : M' 3 = M 3) (eD : M' D 7 = M D 7) : zCS b n D c0 x M' := ⟨by rw [e3]; exact h.1, by rw [e2]; exact h.2.1, h.2.2.1.fr e2, by rw [eD]; exact h.2.2.2.1, h.2.2.2.2⟩
theorem zCL_cons_n {D c0 : Nat} {M M' : zM} {R : List zRu} {r : zRu} (hr : ¬ (1 ≤ r.1 ∧ r.1 ≤ 4)) (hc : r.2.2.2.2 = []) (h : zCL D c0 M R) (e1 : M' D 1 = M D 1) (eA : ∀ q, D + 1 ≤ q → q ≤ D + 5 → M' q = M q) (h3 : M' D 13 = rCat (r :: R)) (h4 : ∀ h : Nat, h < 3 → M' (D + 11) h = rCar (h : Int) (r :: R)) (h5 : ∀ a : Nat, a < 100 → (rSe (a : Int) (r :: R) = none → M' (D + 8) a = 0) ∧ ∀ v, rSe (a : Int) (r :: R) = some v → M' (D + 8) a = 1 ∧ M' (D + 6) a = v.1 ∧ M' (D + 7) a = v.2 ∧ M' (D + 9) a = 1) (h6 : ∀ a, a < 100 → M' (D + 9) a = M (D + 9) a ∨ M' (D + 9) a = 1) : zCL D c0 M' (r :: R) := by
  obtain ⟨g1, g2, g3, g4, g5, g6, g7⟩ := h
  have haN : aN (r :: R) = aN R := if_neg hr
  refine ⟨by rw [haN, e1]; exact g1, ⟨fun h => absurd h hr, zAsk_c (Nat.le_refl _) R g2 (fun q j a b _ => by rw [eA q a (by omega)]) (fun j _ => by rw [eA (D + 5) (by omega) (by omega)])⟩, h3, h4, h5, fun a ha => ?_, fun s hs a ha he => ?_⟩
  · have := g6 a ha
    rcases h6 a ha with h | h
    · rw [h]; exact this
    · exact Or.inr h
  · rcases List.mem_cons.1 hs with rfl | hs
    · rw [hc] at he
      obtain ⟨_, h, _⟩ := he
      exact absurd h (by simp)
    · rcases h6 a ha with h | h
      · rw [h]; exact g7 s hs a ha he
      · exact h
theorem b_catch {b : Nat → Int} {i n D c0 x : Nat} {M : zM} {R : List zRu} (hn : n ≤ 700) (hb : zBy b) (hD : zDr D) (hS : zCS b n D c0 x M) (hL : zCL D c0 M R) : zO (g_X6_readCatch (zKn i) D M) (fun r => zBr b n D M R (pCat b n x) r) := by
  unfold g_X6_readCatch pCat
  refine zO_bdq (g6_takeS hn hb hD hS (by omega) (by omega)) ?_
  rintro A v ⟨f1, _, h1⟩
  dsimp only at f1 h1
  rcases h1 with ⟨w, rfl, s1, v1⟩ | ⟨w, rfl, rfl⟩
  · rw [if_pos w, v1]
    refine zO_brp (by omega) (by omega) (by omega) (zO_lt (zO_some ?_))
    have hL' := hL.fc hD f1 (Nat.le_refl _)
    have e2 : ∀ q, q ≠ D → zst A D 13 (yV b n x) q = A q := fun q h => zst_ne h
    refine ⟨f1.fd.1.tr ⟨fun q a c => e2 q (by omega), fun s _ => congrFun (e2 2 (by rcases hD with rfl | rfl <;> decide)) s⟩, ?_, rfl, c0, s1.fr (e2 2 (by rcases hD with rfl | rfl <;> decide)) (e2 3 (by rcases hD with rfl | rfl <;> decide)) (zst_ns (by decide)), ?_⟩
    · dsimp only
      rw [zst_ns (by decide)]; exact f1.fd.2
    · refine zCL_cons_n (by dsimp only; omega) rfl hL' (zst_ns (by decide)) (fun q a c => e2 q (by omega)) ?_ (fun h hh => ?_) (fun a ha => ?_) (fun a ha => Or.inl (by dsimp only; rw [e2 _ (by omega)]))
      · dsimp only
        rw [zst_eq]
        exact (if_pos rfl).symm
      · dsimp only
        rw [e2 _ (by omega), hL'.2.2.2.1 h hh]
        exact (if_neg (fun h => absurd (show (6 : Int) = 5 from h.1) (by decide))).symm
      · have : rSe (a : Int) (((6 : Int), yV b n x, (0 : Int), (0 : Int), ([] : List zStp)) :: R) = rSe (a : Int) R := if_neg (fun h => absurd (show (6 : Int) = 0 from h.1) (by decide))
        dsimp only
        rw [this, e2 _ (by omega), e2 _ (by omega), e2 _ (by omega), e2 _ (by omega)]
        exact hL'.2.2.2.2.1 a ha
  · rw [if_neg w]
    exact zO_brn (by omega) (by omega) (by omega) (zO_some ⟨f1.fd.1, f1.fd.2, rfl, hS.2.2.1, hS.2.2.2.2.2⟩)
theorem b_carry {b : Nat → Int} {i n D c0 x : Nat} {M : zM} {R : List zRu} (hn : n ≤ 700) (hb : zBy b) (hD : zDr D) (hS : zCS b n D c0 x M) (hL : zCL D c0 M R) : zO (g_X6_readCarry (zKn i) D M) (fun r => zBr b n D M R (pCar b n x) r) := by
  have hw := g6_howWord (i := i) (M := M) hn hS.2.2.2.2.2 (by rw [hS.1]; exact hb) (by rw [hS.1]; exact hS.2.2.1)
  rw [hS.1] at hw
  have hr := yHow_r (b := b) (n := n) (x := x)
  unfold g_X6_readCarry pCar
  refine zO_b1e hw ?_
  by_cases c : yHow b n x = -1
  · rw [if_pos c]
    exact zO_brn ⟨by omega, by omega⟩ ⟨by omega, by omega⟩ (by omega) (zO_some ⟨zFd.rf, rfl, rfl, hS.2.2.1, hS.2.2.2.2.2⟩)
  · rw [if_neg c]
    refine zO_brp ⟨by omega, by omega⟩ ⟨by omega, by omega⟩ (by omega) (zO_b1q (g6_stepS hn hb hD hS) ?_)
    rintro B ⟨f0, _, _, s0⟩
    refine zO_bdq (g6_takeS hn hb hD s0 (by omega) (by omega)) ?_
    rintro A v ⟨f1, _, h1⟩
    dsimp only at f1 h1
    have fr := f0.tr f1 (Nat.le_refl _)
    rcases h1 with ⟨w, rfl, s1, v1⟩ | ⟨w, rfl, rfl⟩
    · rw [if_pos w, v1, (zQL (i := i) hD).2.2.2.2.2.2.2.2.2.2]
      refine zO_brp (by omega) (by omega) (by omega) (zO_gd (by omega) (zO_lt (zO_some ?_)))
      have hL' := hL.fc hD fr (Nat.le_refl _)
      obtain ⟨t, et⟩ : ∃ t : Nat, yHow b n x = (t : Int) := ⟨(yHow b n x).toNat, by omega⟩
      rw [et, Int.toNat_natCast]
      have e2 : ∀ q, q ≠ D + 11 → zst A (D + 11) t (yV b n (yE b n x)) q = A q := fun q h => zst_ne h
      refine ⟨fr.fd.1.tr ⟨fun q a c => e2 q (by omega), fun s _ => congrFun (e2 2 (by omega)) s⟩, ?_, rfl, c0, s1.fr (e2 2 (by omega)) (e2 3 (by omega)) (congrFun (e2 D (by omega)) 7), ?_⟩
      · dsimp only
        rw [e2 D (by omega)]; exact fr.fd.2
      · refine zCL_cons_n (by dsimp only; omega) rfl hL' (by dsimp only; rw [e2 D (by omega)]) (fun q a c => e2 q (by omega)) ?_ (fun h hh => ?_) (fun a ha => ?_) (fun a ha => Or.inl (by dsimp only; rw [e2 _ (by omega)]))
        · dsimp only
          rw [e2 D (by omega), hL'.2.2.1]
          exact (if_neg (fun h => absurd (show (5 : Int) = 6 from h) (by decide))).symm
        · dsimp only
          by_cases e : h = t
          · subst e
            rw [zst_eq]
            exact (if_pos ⟨rfl, rfl⟩).symm
          · rw [zst_ns e, hL'.2.2.2.1 h hh]
            exact (if_neg (fun g => e (by have := g.2; dsimp only at this; omega))).symm
        · have : rSe (a : Int) (((5 : Int), yV b n (yE b n x), (t : Int), (0 : Int), ([] : List zStp)) :: R) = rSe (a : Int) R := if_neg (fun h => absurd (show (5 : Int) = 0 from h.1) (by decide))
          dsimp only
          rw [this, e2 _ (by omega), e2 _ (by omega), e2 _ (by omega), e2 _ (by omega)]
          exact hL'.2.2.2.2.1 a ha
    · rw [if_neg w]
      exact zO_brn (by omega) (by omega) (by omega) (zO_some ⟨fr.fd.1, fr.fd.2, rfl, s0.2.2.1, s0.2.2.2.2.2⟩)
theorem b_putSea {b : Nat → Int} {i n D c0 x : Nat} {a lo hi : Int} {M : zM} {R : List zRu} (hD : zDr D) (hS : zCS b n D c0 x M) (hL : zCL D c0 M R) (ha : 0 ≤ a ∧ a < 100) : zO (f_X3_putSea (zKn i) D a lo hi M) (fun M' => zFd D M M' ∧ M' D 0 = M D 0 ∧ zCS b n D c0 x M' ∧ zCL D c0 M' ((0, a, lo, hi, []) :: R)) := by
  obtain ⟨t, rfl⟩ : ∃ t : Nat, a = (t : Int) := ⟨a.toNat, by omega⟩
  have z := zQL (i := i) hD
  unfold f_X3_putSea
  rw [z.2.2.2.2.2.2.2.1, z.2.2.2.2.2.1, z.2.2.2.2.2.2.1, z.2.2.2.2.2.2.2.2.1]
  refine zO_gd (by omega) (zO_lt (zO_gd (by omega) (zO_lt (zO_gd (by omega) (zO_lt (zO_gd (by omega) (zO_lt (zO_some ?_))))))))
  rw [Int.toNat_natCast]
  have e2 : ∀ q, q ≠ D + 6 → q ≠ D + 7 → q ≠ D + 8 → q ≠ D + 9 → zst (zst (zst (zst M (D + 8) t 1) (D + 6) t lo) (D + 7) t hi) (D + 9) t 1 q = M q := fun q h6 h7 h8 h9 => by rw [zst_ne h9, zst_ne h7, zst_ne h6, zst_ne h8]
  have x6 : ∀ j, zst (zst (zst (zst M (D + 8) t 1) (D + 6) t lo) (D + 7) t hi) (D + 9) t 1 (D + 6) j = if j = t then lo else M (D + 6) j := fun j => by
    rw [zst_ne (by omega), zst_ne (by omega), zst_r]
    by_cases e : j = t
    · rw [if_pos ⟨rfl, e⟩, if_pos e]
    · rw [if_neg (fun h => e h.2), if_neg e, zst_ne (by omega)]
  have x7 : ∀ j, zst (zst (zst (zst M (D + 8) t 1) (D + 6) t lo) (D + 7) t hi) (D + 9) t 1 (D + 7) j = if j = t then hi else M (D + 7) j := fun j => by
    rw [zst_ne (by omega), zst_r]
    by_cases e : j = t
    · rw [if_pos ⟨rfl, e⟩, if_pos e]
    · rw [if_neg (fun h => e h.2), if_neg e, zst_ne (by omega), zst_ne (by omega)]
  have x8 : ∀ j, zst (zst (zst (zst M (D + 8) t 1) (D + 6) t lo) (D + 7) t hi) (D + 9) t 1 (D + 8) j = if j = t then 1 else M (D + 8) j := fun j => by
    rw [zst_ne (by omega), zst_ne (by omega), zst_ne (by omega), zst_r]
    by_cases e : j = t
    · rw [if_pos ⟨rfl, e⟩, if_pos e]
    · rw [if_neg (fun h => e h.2), if_neg e]
  have x9 : ∀ j, zst (zst (zst (zst M (D + 8) t 1) (D + 6) t lo) (D + 7) t hi) (D + 9) t 1 (D + 9) j = if j = t then 1 else M (D + 9) j := fun j => by
    rw [zst_r]
    by_cases e : j = t
    · rw [if_pos ⟨rfl, e⟩, if_pos e]
    · rw [if_neg (fun h => e h.2), if_neg e, zst_ne (by omega), zst_ne (by omega), zst_ne (by omega)]
  generalize zst (zst (zst (zst M (D + 8) t 1) (D + 6) t lo) (D + 7) t hi) (D + 9) t 1 = A at *
  have eD : A D = M D := e2 D (by omega) (by omega) (by omega) (by omega)
  refine ⟨⟨fun q a c => e2 q (by omega) (by omega) (by omega) (by omega), fun s _ => by rw [e2 2 (by omega) (by omega) (by omega) (by omega)]⟩, by rw [eD], hS.fr (e2 2 (by omega) (by omega) (by omega) (by omega)) (e2 3 (by omega) (by omega) (by omega) (by omega)) (by rw [eD]), ?_⟩
  refine zCL_cons_n (by dsimp only; omega) rfl hL (by rw [eD]) (fun q a c => e2 q (by omega) (by omega) (by omega) (by omega)) ?_ (fun h hh => ?_) (fun a ha => ?_) (fun a ha => ?_)
  · rw [eD, hL.2.2.1]
    exact (if_neg (fun h => absurd (show (0 : Int) = 6 from h) (by decide))).symm
  · rw [e2 _ (by omega) (by omega) (by omega) (by omega), hL.2.2.2.1 h hh]
    exact (if_neg (fun h => absurd (show (0 : Int) = 5 from h.1) (by decide))).symm
  · rw [x6, x7, x8, x9]
    by_cases e : a = t
    · subst e
      have : rSe (a : Int) (((0 : Int), (a : Int), lo, hi, ([] : List zStp)) :: R) = some (lo, hi) := if_pos ⟨rfl, rfl⟩
      rw [this]
      refine ⟨fun h => (by cases h), fun v hv => ?_⟩
      cases hv
      rw [if_pos rfl, if_pos rfl, if_pos rfl, if_pos rfl]
      exact ⟨rfl, rfl, rfl, rfl⟩
    · have : rSe (a : Int) (((0 : Int), (t : Int), lo, hi, ([] : List zStp)) :: R) = rSe (a : Int) R := if_neg (fun h => e (by have := h.2; dsimp only at this; omega))
      rw [this, if_neg e, if_neg e, if_neg e, if_neg e]
      exact hL.2.2.2.2.1 a ha
  · rw [x9]
    by_cases e : a = t
    · rw [if_pos e]; exact Or.inr rfl
    · rw [if_neg e]; exact Or.inl rfl
theorem b_sea {b : Nat → Int} {i n D c0 x : Nat} {M : zM} {R : List zRu} (hn : n ≤ 700) (hb : zBy b) (hD : zDr D) (hS : zCS b n D c0 x M) (hL : zCL D c0 M R) : zO (g_X6_readSea (zKn i) D M) (fun r => zBr b n D M R (pSea b n x) r) := by
  unfold g_X6_readSea pSea
  refine zO_bdq (g6_takeS hn hb hD hS (by omega) (by omega)) ?_
  rintro A v ⟨f1, _, h1⟩
  dsimp only at f1 h1
  rcases h1 with ⟨w1, rfl, s1, v1⟩ | ⟨w, rfl, rfl⟩
  · rw [if_pos w1, v1]
    refine zO_brp (by omega) (by omega) (by omega) (zO_lt (zO_bdq (g6_takeS hn hb hD s1 (by omega) (by omega)) ?_))
    rintro B v ⟨f2, _, h2⟩
    dsimp only at f2 h2
    have g2 := f1.tr f2 (Nat.le_refl _)
    rcases h2 with ⟨w2, rfl, s2, v2⟩ | ⟨w, rfl, rfl⟩
    · rw [if_pos w2, v2]
      have hw := g6_isWord (i := i) (j := 0) (M := B) hn s2.2.2.2.2.2 (by rw [s2.1]; exact hb) (by rw [s2.1]; exact s2.2.2.1) (by decide)
      rw [s2.1, show zhs 0 = 555 by decide] at hw
      refine zO_brp (by omega) (by omega) (by omega) (zO_lt (zO_b1e hw ?_))
      have r1 := w1.2
      have r2 := w2.2
      by_cases w3 : wI b n (yE b n (yE b n x)) 555
      · rw [if_pos w3, if_pos w3]
        refine zO_sp1 (zO_brn (by omega) (by omega) (by omega) (zO_b1q (g6_stepS hn hb hD s2) ?_))
        rintro C ⟨f3, _, _, s3⟩
        refine zO_bdq (g6_takeS hn hb hD s3 ⟨by omega, by omega⟩ (by omega)) ?_
        rintro C' v ⟨f4, _, h4⟩
        dsimp only at f4 h4
        have g4 := g2.tr (f3.tr f4 (Nat.le_refl _)) (Nat.le_refl _)
        rcases h4 with ⟨w4, rfl, s4, v4⟩ | ⟨w4, rfl, rfl⟩
        · rw [if_pos w4]
          refine zO_brp (by omega) (by omega) (by omega) (zO_inl ?_)
          rw [v4]
          refine zO_b1q (b_putSea hD s4 (hL.fc hD g4 (Nat.le_refl _)) ⟨by omega, by omega⟩) ?_
          rintro E ⟨k1, k2, k3, k4⟩
          exact zO_some ⟨g4.fd.1.tr k1, k2.trans g4.fd.2, rfl, c0, k3, k4⟩
        · rw [if_neg w4]
          exact zO_brn (by omega) (by omega) (by omega) (zO_inr (show zO _ _ from zO_some ⟨g4.fd.1, g4.fd.2, rfl, s3.2.2.1, s3.2.2.2.2.2⟩))
      · rw [if_neg w3, if_neg w3]
        refine zO_sp1 (zO_brp (by omega) (by omega) (by omega) (zO_inl ?_))
        rw [v2]
        refine zO_b1q (b_putSea hD s2 (hL.fc hD g2 (Nat.le_refl _)) ⟨by omega, by omega⟩) ?_
        rintro E ⟨k1, k2, k3, k4⟩
        exact zO_some ⟨g2.fd.1.tr k1, k2.trans g2.fd.2, rfl, c0, k3, k4⟩
    · rw [if_neg w]
      exact zO_brn (by omega) (by omega) (by omega) (zO_some ⟨g2.fd.1, g2.fd.2, rfl, s1.2.2.1, s1.2.2.2.2.2⟩)
  · rw [if_neg w]
    exact zO_brn (by omega) (by omega) (by omega) (zO_some ⟨f1.fd.1, f1.fd.2, rfl, hS.2.2.1, hS.2.2.2.2.2⟩)
theorem b_putAsk {b : Nat → Int} {i n D c0 c1 x : Nat} {r v : Int} {c : List zStp} {M : zM} {R : List zRu} (hD : zDr D) (hS : zCS b n D c1 x M) (hL : zCL D c1 M R) (hr : 1 ≤ r ∧ r ≤ 4) (hc : c1 = c0 + c.length) (hR : R.length < 40) (hk : zCk (M (D + 5)) c0 c) (he : ∀ a, a < 100 → zEd c a → M (D + 9) a = 1) : zO (f_X3_putAsking (zKn i) D r v (c0 : Int) M) (fun M' => zFd D M M' ∧ M' D 0 = M D 0 ∧ zCS b n D c1 x M' ∧ zCL D c1 M' ((r, v, 0, 0, c) :: R)) := by
  have z := zQL (i := i) hD
  have hN := aN_le R
  obtain ⟨g1, g2, g3, g4, g5, g6, g7⟩ := hL
  unfold f_X3_putAsking
  rw [z.1, z.2.1, z.2.2.1, z.2.2.2.1, g1]
  have dn : ∀ (A : zM) t j w, t ≠ 0 → zst A (D + t) j w D = A D := fun A t j w h => zst_ne (by omega)
  simp only [dn _ _ _ _ (show (1 : Nat) ≠ 0 by decide), dn _ _ _ _ (show (2 : Nat) ≠ 0 by decide), dn _ _ _ _ (show (3 : Nat) ≠ 0 by decide), dn _ _ _ _ (show (4 : Nat) ≠ 0 by decide), zlt, g1, Int.toNat_natCast]
  refine zO_brn ⟨by omega, by omega⟩ ⟨by omega, by omega⟩ (by omega) (zO_gd (by omega) (zO_gd (by omega) (zO_gd (by omega) (zO_gd (by omega) (zO_some ?_)))))
  rw [hS.2.2.2.1]
  have e2 : ∀ q, q ≠ D → q ≠ D + 1 → q ≠ D + 2 → q ≠ D + 3 → q ≠ D + 4 → zst (zst (zst (zst (zst M (D + 1) (aN R) r) (D + 2) (aN R) v) (D + 3) (aN R) (c0 : Int)) (D + 4) (aN R) (c1 : Int)) D 1 ((aN R : Int) + 1) q = M q := fun q h0 h1 h2 h3 h4 => by rw [zst_ne h0, zst_ne h4, zst_ne h3, zst_ne h2, zst_ne h1]
  have eD : ∀ s, s ≠ 1 → zst (zst (zst (zst (zst M (D + 1) (aN R) r) (D + 2) (aN R) v) (D + 3) (aN R) (c0 : Int)) (D + 4) (aN R) (c1 : Int)) D 1 ((aN R : Int) + 1) D s = M D s := fun s h => by rw [zst_ns h, zst_ne (by omega), zst_ne (by omega), zst_ne (by omega), zst_ne (by omega)]
  have x1 : zst (zst (zst (zst (zst M (D + 1) (aN R) r) (D + 2) (aN R) v) (D + 3) (aN R) (c0 : Int)) (D + 4) (aN R) (c1 : Int)) D 1 ((aN R : Int) + 1) (D + 1) (aN R) = r := by rw [zst_ne (by omega), zst_ne (by omega), zst_ne (by omega), zst_ne (by omega), zst_eq]
  have x2 : zst (zst (zst (zst (zst M (D + 1) (aN R) r) (D + 2) (aN R) v) (D + 3) (aN R) (c0 : Int)) (D + 4) (aN R) (c1 : Int)) D 1 ((aN R : Int) + 1) (D + 2) (aN R) = v := by rw [zst_ne (by omega), zst_ne (by omega), zst_ne (by omega), zst_eq]
  have x3 : zst (zst (zst (zst (zst M (D + 1) (aN R) r) (D + 2) (aN R) v) (D + 3) (aN R) (c0 : Int)) (D + 4) (aN R) (c1 : Int)) D 1 ((aN R : Int) + 1) (D + 3) (aN R) = (c0 : Int) := by rw [zst_ne (by omega), zst_ne (by omega), zst_eq]
  have x4 : zst (zst (zst (zst (zst M (D + 1) (aN R) r) (D + 2) (aN R) v) (D + 3) (aN R) (c0 : Int)) (D + 4) (aN R) (c1 : Int)) D 1 ((aN R : Int) + 1) (D + 4) (aN R) = (c1 : Int) := by rw [zst_ne (by omega), zst_eq]
  have x0 : zst (zst (zst (zst (zst M (D + 1) (aN R) r) (D + 2) (aN R) v) (D + 3) (aN R) (c0 : Int)) (D + 4) (aN R) (c1 : Int)) D 1 ((aN R : Int) + 1) D 1 = (aN R : Int) + 1 := zst_eq
  have xl : ∀ q j, D + 1 ≤ q → q ≤ D + 4 → j < aN R → zst (zst (zst (zst (zst M (D + 1) (aN R) r) (D + 2) (aN R) v) (D + 3) (aN R) (c0 : Int)) (D + 4) (aN R) (c1 : Int)) D 1 ((aN R : Int) + 1) q j = M q j := fun q j h1 h2 h3 => by rw [zst_ne (by omega), zst_r, if_neg (by omega), zst_r, if_neg (by omega), zst_r, if_neg (by omega), zst_r, if_neg (by omega)]
  generalize zst (zst (zst (zst (zst M (D + 1) (aN R) r) (D + 2) (aN R) v) (D + 3) (aN R) (c0 : Int)) (D + 4) (aN R) (c1 : Int)) D 1 ((aN R : Int) + 1) = A at *
  have f2 : A 2 = M 2 := by rcases hD with rfl | rfl <;> exact e2 2 (by decide) (by decide) (by decide) (by decide) (by decide)
  have f3 : A 3 = M 3 := by rcases hD with rfl | rfl <;> exact e2 3 (by decide) (by decide) (by decide) (by decide) (by decide)
  have ed : ∀ t, 5 ≤ t → A (D + t) = M (D + t) := fun t ht => e2 (D + t) (by omega) (by omega) (by omega) (by omega) (by omega)
  refine ⟨⟨fun q a c => e2 q (by omega) (by omega) (by omega) (by omega) (by omega), fun s _ => by rw [f2]⟩, eD 0 (by decide), hS.fr f2 f3 (eD 7 (by decide)), ?_⟩
  have haN : aN ((r, v, (0 : Int), (0 : Int), c) :: R) = aN R + 1 := if_pos hr
  refine ⟨by rw [haN, x0]; omega, ⟨fun _ => ⟨x1, x2, c0, x3, by rw [x4, hc], by rw [hc]; exact Nat.le_refl _, by rw [ed 5 (by omega)]; exact hk⟩, zAsk_c (Nat.le_refl _) R g2 xl (fun j _ => by rw [ed 5 (by omega)])⟩, ?_, fun h hh => ?_, fun a ha => ?_, fun a ha => by rw [ed 9 (by omega)]; exact g6 a ha, fun s hs a ha h => ?_⟩
  · rw [eD 13 (by decide), g3]
    exact (if_neg (fun h => by dsimp only at h; omega)).symm
  · rw [ed 11 (by omega), g4 h hh]
    exact (if_neg (fun h => by have := h.1; dsimp only at this; omega)).symm
  · have : rSe (a : Int) ((r, v, (0 : Int), (0 : Int), c) :: R) = rSe (a : Int) R := if_neg (fun h => by have := h.1; dsimp only at this; omega)
    rw [this, ed 6 (by omega), ed 7 (by omega), ed 8 (by omega), ed 9 (by omega)]
    exact g5 a ha
  · rw [ed 9 (by omega)]
    rcases List.mem_cons.1 hs with rfl | hs
    · exact he a ha h
    · exact g7 s hs a ha h
theorem b_ask {b : Nat → Int} {i n D c0 x : Nat} {r : Int} {M : zM} {R : List zRu} (hn : n ≤ 700) (hb : zBy b) (hD : zDr D) (hS : zCS b n D c0 x M) (hL : zCL D c0 M R) (hr : 1 ≤ r ∧ r ≤ 4) (hR : R.length < 40) : zO (g_X6_readAsking (zKn i) r D M) (fun u => zBr b n D M R (pAsk b n r x) u) := by
  unfold g_X6_readAsking pAsk
  have hx1 : zbr r 4 (¬ r = 4) (some 99) (some 100) = some (if r = 4 then (100 : Int) else 99) := by
    apply zO_get
    refine zO_br ⟨by omega, by omega⟩ ⟨by omega, by omega⟩ (fun h => zO_some ?_) (fun h => zO_some ?_)
    · rw [if_neg h]
    · rw [if_pos (by omega)]
  refine zO_b1e hx1 ?_
  have hhi : (if r = 4 then (100 : Int) else 99) = 100 ∨ (if r = 4 then (100 : Int) else 99) = 99 := by split <;> omega
  generalize (if r = 4 then (100 : Int) else 99) = hi at *
  refine zO_bdq (g6_takeS hn hb hD hS (by omega) ⟨by omega, by omega⟩) ?_
  rintro A v ⟨f1, _, h1⟩
  dsimp only at f1 h1
  rcases h1 with ⟨w1, rfl, s1, v1⟩ | ⟨w, rfl, rfl⟩
  · rw [if_pos w1, v1, s1.2.2.2.1]
    have hw := g6_isWord (i := i) (j := 1) (M := A) hn s1.2.2.2.2.2 (by rw [s1.1]; exact hb) (by rw [s1.1]; exact s1.2.2.1) (by decide)
    rw [s1.1, show zhs 1 = 249 by decide] at hw
    refine zO_brp (by omega) (by omega) (by omega) (zO_lt (zO_lt (zO_b1e hw (zO_sp1 ?_))))
    by_cases w2 : wI b n (yE b n x) 249
    · rw [if_pos w2, if_pos w2]
      refine zO_brn (by omega) (by omega) (by omega) (zO_b1q (g6_stepS hn hb hD s1) ?_)
      rintro B ⟨f2, _, _, s2⟩
      refine zO_bdq (g6_readAny hn hb hD s2) ?_
      rintro C u ⟨c1, c2⟩
      dsimp only at c1 c2
      have g2 := f1.tr f2 (Nat.le_refl _)
      have fr := g2.tr c1 (Nat.le_refl _)
      cases ho : pCnd b n (yE b n (yE b n x)) with
      | inl q =>
        rw [ho] at c2
        obtain ⟨u1, s3, k3, e3⟩ := c2
        subst u1
        refine zO_brp (by omega) (by omega) (by omega) (zO_inl ?_)
        refine zO_b1q (b_putAsk (c0 := c0) (c1 := c0 + q.1.length) (v := yV b n x) (c := q.1) hD s3 (hL.fc hD fr (by omega)) hr rfl hR k3 e3) ?_
        rintro E ⟨k1, k2, k3, k4⟩
        exact zO_some ⟨fr.fd.1.tr k1, k2.trans fr.fd.2, rfl, _, k3, k4⟩
      | inr e =>
        rw [ho] at c2
        obtain ⟨u1, t3, e3, _⟩ := c2
        subst u1
        exact zO_brn (by omega) (by omega) (by omega) (zO_inr (show zO _ _ from zO_some ⟨fr.fd.1, fr.fd.2, rfl, t3, e3⟩))
    · rw [if_neg w2, if_neg w2]
      refine zO_brp (by omega) (by omega) (by omega) (zO_inl ?_)
      refine zO_b1q (b_putAsk (c0 := c0) (c1 := c0) (v := yV b n x) (c := []) hD s1 (hL.fc hD f1 (Nat.le_refl _)) hr rfl hR trivial (fun a _ h => by obtain ⟨_, h, _⟩ := h; exact absurd h (by simp))) ?_
      rintro E ⟨k1, k2, k3, k4⟩
      exact zO_some ⟨f1.fd.1.tr k1, k2.trans f1.fd.2, rfl, _, k3, k4⟩
  · rw [if_neg w]
    exact zO_brn (by omega) (by omega) (by omega) (zO_some ⟨f1.fd.1, f1.fd.2, rfl, hS.2.2.1, hS.2.2.2.2.2⟩)

/-! law: conditions read, by themselves -/
abbrev zStp : Type := Int × Int × Int × Int
abbrev zPr : Type := (List zStp × Nat) ⊕ Nat
def pTst (b : Nat → Int) (n x : Nat) : zPr := if yAsk b n x = -1 then .inr x else if ySig b n (yE b n x) = -1 then .inr (yE b n x) else if wN b n (yE b n (yE b n x)) 0 9999 then .inl ([(0, yAsk b n x, ySig b n (yE b n x), yV b n (yE b n (yE b n x)))], yE b n (yE b n (yE b n x))) else .inr (yE b n (yE b n x))
def pChn (b : Nat → Int) (n : Nat) (h : Int) (st : zStp) (one : Nat → zPr) : Nat → List zStp → Nat → zPr
  | 0, c, x => .inl (c, x)
  | f + 1, c, x => if wI b n x h then (match one (yE b n x) with
    | .inl r => pChn b n h st one f (c ++ (r.1 ++ [st])) r.2
    | .inr e => .inr e) else .inl (c, x)
theorem pChn_s {b : Nat → Int} {n : Nat} {h : Int} {st : zStp} {one : Nat → zPr} {f : Nat} {c : List zStp} {x : Nat} : pChn b n h st one (f + 1) c x = if wI b n x h then (match one (yE b n x) with
    | .inl r => pChn b n h st one f (c ++ (r.1 ++ [st])) r.2
    | .inr e => .inr e) else .inl (c, x) := rfl
def pSeq (b : Nat → Int) (n : Nat) (h : Int) (st : zStp) (one : Nat → zPr) (x : Nat) : zPr := match one x with
  | .inl r => pChn b n h st one 700 r.1 r.2
  | .inr e => .inr e
def pAll (b : Nat → Int) (n : Nat) (one : Nat → zPr) (x : Nat) : zPr := pSeq b n 1111 (2, 0, 0, 0) one x
def pAny (b : Nat → Int) (n : Nat) (one : Nat → zPr) (x : Nat) : zPr := pSeq b n 423 (3, 0, 0, 0) (pAll b n one) x
def pOne (b : Nat → Int) (n : Nat) : Nat → Nat → zPr
  | 0, x => if wI b n x 10631 ∨ wS b n x 40 then .inr x else pTst b n x
  | m + 1, x => if wI b n x 10631 then (match pOne b n m (yE b n x) with
      | .inl r => .inl (r.1 ++ [(1, 0, 0, 0)], r.2)
      | .inr e => .inr e) else if wS b n x 40 then (match pAny b n (pOne b n m) (yE b n x) with
      | .inl r => if wS b n r.2 41 then .inl (r.1, yE b n r.2) else .inr r.2
      | .inr e => .inr e) else pTst b n x
/-- what a part that is read takes of the bytes -/
def zGd (b : Nat → Int) (n : Nat) (one : Nat → zPr) : Prop := ∀ x, x ≤ n → (∀ r, one x = .inl r → x + r.1.length ≤ r.2 ∧ x < r.2 ∧ r.2 ≤ n) ∧ ∀ e, one x = .inr e → e ≤ n
theorem pTst_g {b : Nat → Int} {n : Nat} : zGd b n (pTst b n) := by
  intro x hx
  have h1 := yE_r (b := b) hx
  have a1 := yA_r (b := b) hx
  have h2 := yE_r (b := b) (n := n) (x := yE b n x) h1.2.1
  have h3 := yE_r (b := b) (n := n) (x := yE b n (yE b n x)) h2.2.1
  have a2 := yA_r (b := b) (n := n) (x := yE b n x) h1.2.1
  have a3 := yA_r (b := b) (n := n) (x := yE b n (yE b n x)) h2.2.1
  have r1 := yAsk_r (b := b) (n := n) (x := x)
  have r2 := ySig_r (b := b) (n := n) (x := yE b n x)
  unfold pTst
  by_cases c1 : yAsk b n x = -1
  · rw [if_pos c1]
    exact ⟨fun r h => (by cases h), fun e h => by cases h; exact hx⟩
  · rw [if_neg c1]
    by_cases c2 : ySig b n (yE b n x) = -1
    · rw [if_pos c2]
      exact ⟨fun r h => (by cases h), fun e h => by cases h; exact h1.2.1⟩
    · rw [if_neg c2]
      by_cases c3 : wN b n (yE b n (yE b n x)) 0 9999
      · rw [if_pos c3]
        refine ⟨fun r h => ?_, fun e h => (by cases h)⟩
        cases h
        have k1 := h1.2.2.1 (by have := r1.2.2 (by omega); omega)
        have k2 := h2.2.2.1 (by have := r2.2.2 (by omega); omega)
        have k3 := h3.2.2.1 (by have := c3.1; omega)
        dsimp only [List.length_singleton]
        omega
      · rw [if_neg c3]
        exact ⟨fun r h => (by cases h), fun e h => by cases h; exact h2.2.1⟩
theorem pChn_g {b : Nat → Int} {n : Nat} {h : Int} {st : zStp} {one : Nat → zPr} (g : zGd b n one) : ∀ f c x, x ≤ n → (∀ r, pChn b n h st one f c x = .inl r → x + r.1.length ≤ r.2 + c.length ∧ c.length ≤ r.1.length ∧ x ≤ r.2 ∧ r.2 ≤ n) ∧ ∀ e, pChn b n h st one f c x = .inr e → e ≤ n := by
  intro f
  induction f with
  | zero => intro c x hx; exact ⟨fun r hr => by cases hr; dsimp only; omega, fun e he => (by cases he)⟩
  | succ f ih =>
    intro c x hx
    have h1 := yE_r (b := b) hx
    have a1 := yA_r (b := b) hx
    rw [pChn_s]
    by_cases c1 : wI b n x h
    · have k1 := h1.2.2.1 (by have := c1.1; omega)
      obtain ⟨g1, g2⟩ := g (yE b n x) h1.2.1
      rw [if_pos c1]
      cases ho : one (yE b n x) with
      | inl r =>
        have q := g1 r ho
        obtain ⟨i1, i2⟩ := ih (c ++ (r.1 ++ [st])) r.2 q.2.2
        refine ⟨fun r' hr => ?_, i2⟩
        have := i1 r' hr
        simp only [List.length_append, List.length_singleton] at this
        omega
      | inr e => exact ⟨fun r hr => (by cases hr), fun e' he => by cases he; exact g2 e ho⟩
    · rw [if_neg c1]
      exact ⟨fun r hr => by cases hr; dsimp only; omega, fun e he => (by cases he)⟩
theorem pSeq_g {b : Nat → Int} {n : Nat} {h : Int} {st : zStp} {one : Nat → zPr} (g : zGd b n one) : zGd b n (pSeq b n h st one) := by
  intro x hx
  obtain ⟨g1, g2⟩ := g x hx
  unfold pSeq
  cases ho : one x with
  | inl r =>
    have q := g1 r ho
    obtain ⟨i1, i2⟩ := pChn_g (h := h) (st := st) g 700 r.1 r.2 q.2.2
    refine ⟨fun r' hr => ?_, i2⟩
    have := i1 r' hr
    omega
  | inr e => exact ⟨fun r hr => (by cases hr), fun e' he => by cases he; exact g2 e ho⟩
theorem pOne_g {b : Nat → Int} {n : Nat} : ∀ m, zGd b n (pOne b n m) := by
  intro m
  induction m with
  | zero =>
    intro x hx
    unfold pOne
    by_cases c : wI b n x 10631 ∨ wS b n x 40
    · rw [if_pos c]
      exact ⟨fun r h => (by cases h), fun e h => by cases h; exact hx⟩
    · rw [if_neg c]
      exact pTst_g x hx
  | succ m ih =>
    intro x hx
    have h1 := yE_r (b := b) hx
    have a1 := yA_r (b := b) hx
    unfold pOne
    by_cases c : wI b n x 10631
    · rw [if_pos c]
      have k1 := h1.2.2.1 (by have := c.1; omega)
      obtain ⟨g1, g2⟩ := ih (yE b n x) h1.2.1
      cases ho : pOne b n m (yE b n x) with
      | inl r =>
        have q := g1 r ho
        refine ⟨fun r' hr => ?_, fun e he => (by cases he)⟩
        cases hr
        simp only [List.length_append, List.length_singleton]
        omega
      | inr e => exact ⟨fun r hr => (by cases hr), fun e' he => by cases he; exact g2 e ho⟩
    · rw [if_neg c]
      by_cases c2 : wS b n x 40
      · rw [if_pos c2]
        have k1 := h1.2.2.1 (by have := c2.1; omega)
        obtain ⟨g1, g2⟩ := (show zGd b n (pAny b n (pOne b n m)) from pSeq_g (pSeq_g ih)) (yE b n x) h1.2.1
        cases ho : pAny b n (pOne b n m) (yE b n x) with
        | inl r =>
          have q := g1 r ho
          have h2 := yE_r (b := b) q.2.2
          have a2 := yA_r (b := b) q.2.2
          by_cases c3 : wS b n r.2 41
          · have k2 := h2.2.2.1 (by have := c3.1; omega)
            dsimp only
            rw [if_pos c3]
            refine ⟨fun r' hr => ?_, fun e he => (by cases he)⟩
            cases hr
            dsimp only
            omega
          · dsimp only
            rw [if_neg c3]
            exact ⟨fun r' hr => (by cases hr), fun e' he => by cases he; exact q.2.2⟩
        | inr e => exact ⟨fun r hr => (by cases hr), fun e' he => by cases he; exact g2 e ho⟩
      · rw [if_neg c2]
        exact pTst_g x hx
/-! steps as the class keeps them -/
def eStp (s : zStp) : Int := if s.1 = 0 then s.2.2.2 * 256 + s.2.1 * 16 + s.2.2.1 else if s.1 = 1 then 3 else if s.1 = 2 then 4 else 5
def zCk (f : Nat → Int) : Nat → List zStp → Prop
  | _, [] => True
  | j, s :: c => f j = eStp s ∧ zCk f (j + 1) c
theorem zCk_app {f : Nat → Int} : ∀ (c c' : List zStp) (j : Nat), zCk f j (c ++ c') ↔ (zCk f j c ∧ zCk f (j + c.length) c') := by
  intro c
  induction c with
  | nil => intro c' j; simp [zCk]
  | cons s c ih =>
    intro c' j
    rw [List.cons_append]
    show (f j = eStp s ∧ zCk f (j + 1) (c ++ c')) ↔ ((f j = eStp s ∧ zCk f (j + 1) c) ∧ _)
    rw [ih c' (j + 1), List.length_cons, show j + 1 + c.length = j + (c.length + 1) by omega]
    exact ⟨fun h => ⟨⟨h.1, h.2.1⟩, h.2.2⟩, fun h => ⟨h.1.1, h.1.2, h.2⟩⟩
theorem zCk_c {f f' : Nat → Int} : ∀ (c : List zStp) (j : Nat), zCk f j c → (∀ t, j ≤ t → t < j + c.length → f' t = f t) → zCk f' j c := by
  intro c
  induction c with
  | nil => intro j _ _; exact trivial
  | cons s c ih =>
    intro j h e
    rw [List.length_cons] at e
    exact ⟨by rw [e j (by omega) (by omega)]; exact h.1, ih (j + 1) h.2 (fun t a d => e t (by omega) (by omega))⟩
/-- the AGES at which a condition may turn -/
def zEd (c : List zStp) (a : Nat) : Prop := ∃ s, s ∈ c ∧ s.1 = 0 ∧ s.2.1 = 2 ∧ ((s.2.2.1 ≠ 1 ∧ (a : Int) = s.2.2.2) ∨ (s.2.2.1 ≠ 0 ∧ (a : Int) = s.2.2.2 + 1))
theorem zEd_app {c c' : List zStp} {a : Nat} : zEd (c ++ c') a ↔ (zEd c a ∨ zEd c' a) := by
  unfold zEd
  constructor
  · rintro ⟨s, h, r⟩
    rcases List.mem_append.1 h with h | h
    · exact Or.inl ⟨s, h, r⟩
    · exact Or.inr ⟨s, h, r⟩
  · rintro (⟨s, h, r⟩ | ⟨s, h, r⟩)
    · exact ⟨s, List.mem_append.2 (Or.inl h), r⟩
    · exact ⟨s, List.mem_append.2 (Or.inr h), r⟩
theorem zEd_1 {s : zStp} {a : Nat} : zEd [s] a ↔ (s.1 = 0 ∧ s.2.1 = 2 ∧ ((s.2.2.1 ≠ 1 ∧ (a : Int) = s.2.2.2) ∨ (s.2.2.1 ≠ 0 ∧ (a : Int) = s.2.2.2 + 1))) := by
  unfold zEd
  constructor
  · rintro ⟨s', h, r⟩
    rw [List.mem_singleton] at h
    subst h
    exact r
  · intro r
    exact ⟨s, List.mem_singleton.2 rfl, r⟩
/-! the class reads conditions -/
abbrev zDr (D : Nat) : Prop := D = 52 ∨ D = 64
/-- token x in hand, c0 steps put down -/
def zCS (b : Nat → Int) (n D c0 x : Nat) (M : zM) : Prop := M 3 = b ∧ M 2 2 = (n : Int) ∧ zTc b n x M ∧ M D 7 = (c0 : Int) ∧ c0 ≤ x ∧ x ≤ n
/-- what reading leaves -/
def zFc (D c0 : Nat) (M M' : zM) : Prop := zFr [2, D, D + 5, D + 9] M M' ∧ (∀ s, s < 3 ∨ 7 < s → M' 2 s = M 2 s) ∧ (∀ s, s ≠ 7 → M' D s = M D s) ∧ (∀ j, j < c0 → M' (D + 5) j = M (D + 5) j) ∧ (∀ a, M (D + 9) a = 1 → M' (D + 9) a = 1) ∧ ∀ a, M (D + 9) a = 0 ∨ M (D + 9) a = 1 → M' (D + 9) a = 0 ∨ M' (D + 9) a = 1
theorem zFc.rf {D c0 : Nat} {M : zM} : zFc D c0 M M := ⟨zFr_refl, fun _ _ => rfl, fun _ _ => rfl, fun _ _ => rfl, fun _ h => h, fun _ h => h⟩
theorem zFc.tr {D c0 c1 : Nat} {M M' M'' : zM} (h : zFc D c0 M M') (h' : zFc D c1 M' M'') (hc : c0 ≤ c1) : zFc D c0 M M'' := ⟨h.1.tr h'.1, fun s a => (h'.2.1 s a).trans (h.2.1 s a), fun s a => (h'.2.2.1 s a).trans (h.2.2.1 s a), fun j hj => (h'.2.2.2.1 j (by omega)).trans (h.2.2.2.1 j hj), fun a e => h'.2.2.2.2.1 a (h.2.2.2.2.1 a e), fun a e => h'.2.2.2.2.2 a (h.2.2.2.2.2 a e)⟩
theorem zFc.rd {D c0 : Nat} {M M' : zM} (hD : zDr D) (h : zFr [2] M M') (h2 : ∀ s, s < 3 ∨ 7 < s → M' 2 s = M 2 s) : zFc D c0 M M' := by
  refine ⟨h.mono (by simp), h2, fun s _ => ?_, fun j _ => ?_, fun a e => ?_, fun a e => ?_⟩
  · rw [h D (by rcases hD with rfl | rfl <;> decide)]
  · rw [h (D + 5) (by rcases hD with rfl | rfl <;> decide)]
  · rw [h (D + 9) (by rcases hD with rfl | rfl <;> decide)]; exact e
  · rw [h (D + 9) (by rcases hD with rfl | rfl <;> decide)]; exact e
/-- the class's result r of reading a part from M, as the parser says -/
def zCr (b : Nat → Int) (n D c0 : Nat) (M : zM) (R : zPr) (r : zM × Int) : Prop := zFc D c0 M r.1 ∧ match R with
  | .inl q => r.2 = 1 ∧ zCS b n D (c0 + q.1.length) q.2 r.1 ∧ zCk (r.1 (D + 5)) c0 q.1 ∧ ∀ a, a < 100 → zEd q.1 a → r.1 (D + 9) a = 1
  | .inr e => r.2 = 0 ∧ zTc b n e r.1 ∧ e ≤ n ∧ ∃ c1 : Nat, c0 ≤ c1 ∧ c1 ≤ 700 ∧ r.1 D 7 = (c1 : Int)
theorem g6_stepS {b : Nat → Int} {i n D c0 x : Nat} {M : zM} (hn : n ≤ 700) (hb : zBy b) (hD : zDr D) (h : zCS b n D c0 x M) : zO (g_X6_step (zKn i) M) (fun M' => zFc D c0 M M' ∧ zFr [2] M M' ∧ (∀ s, s ≠ 3 → s ≠ 4 → s ≠ 5 → s ≠ 6 → M' 2 s = M 2 s) ∧ zCS b n D c0 (yE b n x) M') := by
  obtain ⟨h1, h2, h3, h4, h5, h6⟩ := h
  have hE := yE_r (b := b) h6
  have hA := yA_r (b := b) h6
  refine zO_mono (g6_step (x := yE b n x) hn (by rw [h1]; exact hb) h2 h3.2.1 hE.2.1) ?_
  rintro M' ⟨f1, f2, f3⟩
  rw [h1] at f3
  exact ⟨zFc.rd hD f1 (fun s hs => f2 s (by omega) (by omega) (by omega) (by omega)), f1, f2, by rw [f1 3 (by decide)]; exact h1, by rw [f2 2 (by decide) (by decide) (by decide) (by decide)]; exact h2, f3, by rw [f1 D (by rcases hD with rfl | rfl <;> decide)]; exact h4, by omega, hE.2.1⟩
theorem g6_takeS {b : Nat → Int} {i n D c0 x : Nat} {lo hi : Int} {M : zM} (hn : n ≤ 700) (hb : zBy b) (hD : zDr D) (h : zCS b n D c0 x M) (hl : zr lo) (hh : zr hi) : zO (g_X6_takeNumber (zKn i) lo hi M) (fun r => zFc D c0 M r.1 ∧ zFr [2] M r.1 ∧ ((wN b n x lo hi ∧ r.2 = 1 ∧ zCS b n D c0 (yE b n x) r.1 ∧ r.1 2 7 = yV b n x) ∨ (¬ wN b n x lo hi ∧ r.2 = 0 ∧ r.1 = M))) := by
  have h' := h
  obtain ⟨h1, h2, ⟨_, _, t3, t4⟩, _, _, h6⟩ := h'
  have hk := yK_r (b := b) (n := n) (x := x)
  have hv := yV_r hb hn h6
  unfold g_X6_takeNumber wN
  rw [t3, t4]
  refine zO_br ⟨by omega, by omega⟩ ⟨by omega, by omega⟩ (fun c => zO_some ⟨zFc.rf, zFr_refl, Or.inr ⟨fun e => c e.1, rfl, rfl⟩⟩) (fun c1 => zO_br ⟨by omega, by omega⟩ hl (fun c => zO_some ⟨zFc.rf, zFr_refl, Or.inr ⟨fun e => by omega, rfl, rfl⟩⟩) (fun c2 => zO_br ⟨by omega, by omega⟩ hh (fun c3 => zO_lte (fun M1 e1 => ?_)) (fun c => zO_some ⟨zFc.rf, zFr_refl, Or.inr ⟨fun e => by omega, rfl, rfl⟩⟩)))
  have f1 : zFr [2] M M1 := by rw [e1]; exact zFr.st1 (by decide)
  have o1 : ∀ s, s ≠ 7 → M1 2 s = M 2 s := fun s hs => by rw [e1]; exact zst_ns hs
  have s1 : zCS b n D c0 x M1 := by
    obtain ⟨h1, h2, ⟨t1, t2, t3, t4⟩, h4, h5, h6⟩ := h
    exact ⟨by rw [f1 3 (by decide)]; exact h1, by rw [o1 2 (by decide)]; exact h2, ⟨by rw [o1 3 (by decide)]; exact t1, by rw [o1 4 (by decide)]; exact t2, by rw [o1 5 (by decide)]; exact t3, by rw [o1 6 (by decide)]; exact t4⟩, by rw [f1 D (by rcases hD with rfl | rfl <;> decide)]; exact h4, h5, h6⟩
  refine zO_b1q (g6_stepS hn hb hD s1) ?_
  rintro M2 ⟨g1, g2, g3, g4⟩
  refine zO_some ⟨(zFc.rd hD f1 (fun s hs => o1 s (by omega))).tr g1 (Nat.le_refl _), f1.tr g2, Or.inl ⟨⟨by omega, by omega, by omega⟩, rfl, g4, ?_⟩⟩
  dsimp only
  rw [g3 7 (by decide) (by decide) (by decide) (by decide), e1, zst_eq]
theorem f3_putStep {i D c0 : Nat} {v : Int} {M : zM} (hD : zDr D) (h : M D 7 = (c0 : Int)) (hc : c0 < 700) : f_X3_putStep (zKn i) D v M = some (zst (zst M (D + 5) c0 v) D 7 ((c0 : Int) + 1)) := by
  apply zO_get
  unfold f_X3_putStep
  rw [h, (zQL (i := i) hD).2.2.2.2.1]
  refine zO_brn ⟨by omega, by omega⟩ ⟨by omega, by omega⟩ (by omega) (zO_gd (by omega) (zO_lt (zO_lt (zO_some ?_))))
  rw [Int.toNat_natCast, zst_ne (show D ≠ D + 5 by omega), h]
theorem zFc_put {D c0 : Nat} {v : Int} {M : zM} : zFc D c0 M (zst (zst M (D + 5) c0 v) D 7 ((c0 : Int) + 1)) := by
  refine ⟨(zFr.st1 (by simp)).st (by simp), fun s _ => ?_, fun s hs => ?_, fun j hj => ?_, fun a e => ?_, fun a e => ?_⟩
  · by_cases e : (2 : Nat) = D
    · subst e
      rw [zst_r, if_neg (by omega), zst_r, if_neg (by omega)]
    · rw [zst_ne e, zst_ne (by omega)]
  · rw [zst_ns hs, zst_ne (by omega)]
  · rw [zst_ne (by omega), zst_ns (by omega)]
  · rw [zst_ne (by omega), zst_ne (by omega)]; exact e
  · rw [zst_ne (by omega), zst_ne (by omega)]; exact e
theorem zCS_put {b : Nat → Int} {n D c0 x : Nat} {v : Int} {M : zM} (hD : zDr D) (h : zCS b n D c0 x M) (hc : c0 + 1 ≤ x) : zCS b n D (c0 + 1) x (zst (zst M (D + 5) c0 v) D 7 ((c0 : Int) + 1)) := by
  obtain ⟨h1, h2, ⟨t1, t2, t3, t4⟩, h4, h5, h6⟩ := h
  have e2 : ∀ s, zst (zst M (D + 5) c0 v) D 7 ((c0 : Int) + 1) 2 s = M 2 s := fun s => by rw [zst_ne (show (2 : Nat) ≠ D by rcases hD with rfl | rfl <;> decide), zst_ne (show (2 : Nat) ≠ D + 5 by omega)]
  exact ⟨by rw [zst_ne (show (3 : Nat) ≠ D by rcases hD with rfl | rfl <;> decide), zst_ne (show (3 : Nat) ≠ D + 5 by omega)]; exact h1, by rw [e2]; exact h2, ⟨by rw [e2]; exact t1, by rw [e2]; exact t2, by rw [e2]; exact t3, by rw [e2]; exact t4⟩, by rw [zst_eq]; omega, hc, h6⟩

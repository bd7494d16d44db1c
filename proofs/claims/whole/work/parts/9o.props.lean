/-! law: what every LAW that is read keeps -/
def okc (D : Nat) (c : List zStp) : Prop := ∀ k c', k + D ≤ 40 → dp c' (k + 1) → dp (c ++ c') k
theorem okc.up {D D' : Nat} {c : List zStp} (h : okc D c) (hd : D ≤ D') : okc D' c := fun k c' hk => h k c' (by omega)
theorem okc_tst {b : Nat → Int} {n x : Nat} {q : List zStp × Nat} (hb : zBy b) (hn : n ≤ 700) (h : pTst b n x = .inl q) : okc 1 q.1 := by
  unfold pTst at h
  by_cases c1 : yAsk b n x = -1
  · rw [if_pos c1] at h; cases h
  · rw [if_neg c1] at h
    by_cases c2 : ySig b n (yE b n x) = -1
    · rw [if_pos c2] at h; cases h
    · rw [if_neg c2] at h
      by_cases c3 : wN b n (yE b n (yE b n x)) 0 9999
      · rw [if_pos c3] at h
        cases h
        have r1 := yAsk_r (b := b) (n := n) (x := x)
        have r2 := ySig_r (b := b) (n := n) (x := yE b n x)
        intro k c' hk hd
        refine ⟨Or.inl ⟨rfl, by dsimp only; omega, by dsimp only; omega, by dsimp only; omega, by dsimp only; omega, c3.2.1, c3.2.2⟩, fun _ => ⟨by omega, hd⟩, fun h => absurd (show (0 : Int) = 1 from h) (by decide), fun h => ?_⟩
        rcases h with h | h
        · exact absurd (show (0 : Int) = 2 from h) (by decide)
        · exact absurd (show (0 : Int) = 3 from h) (by decide)
      · rw [if_neg c3] at h; cases h
def zOkp (D : Nat) (one : Nat → zPr) : Prop := ∀ x q, one x = .inl q → okc D q.1
theorem okc_chn {b : Nat → Int} {n D : Nat} {h : Int} {st : zStp} {one : Nat → zPr} (hst : st.1 = 2 ∨ st.1 = 3) (g : zOkp D one) : ∀ f c x q, okc (D + 1) c → pChn b n h st one f c x = .inl q → okc (D + 1) q.1 := by
  intro f
  induction f with
  | zero => intro c x q hc hq; cases hq; exact hc
  | succ f ih =>
    intro c x q hc hq
    rw [pChn_s] at hq
    by_cases hw : wI b n x h
    · rw [if_pos hw] at hq
      cases ho : one (yE b n x) with
      | inr e => rw [ho] at hq; cases hq
      | inl r =>
        rw [ho] at hq
        refine ih _ _ q ?_ hq
        have hr := g _ r ho
        intro k c' hk hd
        rw [List.append_assoc, List.append_assoc]
        refine hc k _ (by omega) (hr (k + 1) _ (by omega) ?_)
        refine ⟨Or.inr (Or.inr hst), fun h => by omega, fun h => by omega, fun _ => ⟨by omega, ?_⟩⟩
        rw [show k + 1 + 1 - 1 = k + 1 by omega]
        exact hd
    · rw [if_neg hw] at hq
      cases hq
      exact hc
theorem okc_seq {b : Nat → Int} {n D : Nat} {h : Int} {st : zStp} {one : Nat → zPr} (hst : st.1 = 2 ∨ st.1 = 3) (g : zOkp D one) : zOkp (D + 1) (pSeq b n h st one) := by
  intro x q hq
  unfold pSeq at hq
  cases ho : one x with
  | inr e => rw [ho] at hq; cases hq
  | inl r =>
    rw [ho] at hq
    exact okc_chn hst g 700 r.1 r.2 q ((g x r ho).up (by omega)) hq
theorem okc_one {b : Nat → Int} {n : Nat} (hb : zBy b) (hn : n ≤ 700) : ∀ m, zOkp (1 + 2 * m) (pOne b n m) := by
  intro m
  induction m with
  | zero =>
    intro x q hq
    unfold pOne at hq
    split at hq
    · cases hq
    · exact okc_tst hb hn hq
  | succ m ih =>
    intro x q hq
    unfold pOne at hq
    by_cases c : wI b n x 10631
    · rw [if_pos c] at hq
      cases ho : pOne b n m (yE b n x) with
      | inr e => rw [ho] at hq; cases hq
      | inl r =>
        rw [ho] at hq
        cases hq
        have hr := ih _ r ho
        intro k c' hk hd
        rw [List.append_assoc]
        refine hr k _ (by omega) ⟨Or.inr (Or.inl rfl), fun h => absurd (show (1 : Int) = 0 from h) (by decide), fun _ => ⟨by omega, hd⟩, fun h => ?_⟩
        rcases h with h | h
        · exact absurd (show (1 : Int) = 2 from h) (by decide)
        · exact absurd (show (1 : Int) = 3 from h) (by decide)
    · rw [if_neg c] at hq
      by_cases d : wS b n x 40
      · rw [if_pos d] at hq
        cases ho : pAny b n (pOne b n m) (yE b n x) with
        | inr e => rw [ho] at hq; cases hq
        | inl r =>
          rw [ho] at hq
          dsimp only at hq
          split at hq
          · cases hq
            have hr := okc_seq (b := b) (n := n) (h := 423) (st := (3, 0, 0, 0)) (Or.inr rfl) (okc_seq (b := b) (n := n) (h := 1111) (st := (2, 0, 0, 0)) (Or.inl rfl) ih) _ r ho
            exact hr.up (by omega)
          · cases hq
      · rw [if_neg d] at hq
        exact (okc_tst hb hn hq).up (by omega)
theorem okc_cnd {b : Nat → Int} {n x : Nat} {q : List zStp × Nat} (hb : zBy b) (hn : n ≤ 700) (h : pCnd b n x = .inl q) : dp q.1 0 := by
  have hr := okc_seq (b := b) (n := n) (h := 423) (st := (3, 0, 0, 0)) (Or.inr rfl) (okc_seq (b := b) (n := n) (h := 1111) (st := (2, 0, 0, 0)) (Or.inl rfl) (okc_one hb hn 9)) x q h
  have := hr 0 [] (by omega) (Nat.le_refl 1)
  rw [List.append_nil] at this
  exact this
theorem zRg_bdy {b : Nat → Int} {n x : Nat} {r : Int} {q : zRu × Nat} (hb : zBy b) (hn : n ≤ 700) (hr : 0 ≤ r ∧ r ≤ 6) (h : pBdy b n r x = .inl q) : zRg q.1 := by
  have nil : dp [] 0 := by show 0 ≤ 1; omega
  unfold pBdy at h
  by_cases c0 : r = 0
  · rw [if_pos c0] at h
    unfold pSea at h
    by_cases w1 : wN b n x 0 99
    · rw [if_pos w1] at h
      by_cases w2 : wN b n (yE b n x) 0 99
      · rw [if_pos w2] at h
        have v1 := w1.2
        have v2 := w2.2
        by_cases w3 : wI b n (yE b n (yE b n x)) 555
        · rw [if_pos w3] at h
          by_cases w4 : wN b n (yE b n (yE b n (yE b n x))) (yV b n (yE b n x)) 99
          · rw [if_pos w4] at h
            have v4 := w4.2
            cases h
            exact ⟨by dsimp only; omega, by dsimp only; omega, by dsimp only; omega, by dsimp only; omega, fun _ _ => by dsimp only; omega, fun h => absurd (show (0 : Int) = 6 from h) (by decide), by dsimp only; omega, by dsimp only; omega, by dsimp only; omega, fun _ => by dsimp only; omega, by dsimp only; omega, by dsimp only; omega, nil⟩
          · rw [if_neg w4] at h; cases h
        · rw [if_neg w3] at h
          cases h
          exact ⟨by dsimp only; omega, by dsimp only; omega, by dsimp only; omega, by dsimp only; omega, fun _ _ => by dsimp only; omega, fun h => absurd (show (0 : Int) = 6 from h) (by decide), by dsimp only; omega, by dsimp only; omega, by dsimp only; omega, fun _ => by dsimp only; omega, by dsimp only; omega, by dsimp only; omega, nil⟩
      · rw [if_neg w2] at h; cases h
    · rw [if_neg w1] at h; cases h
  · rw [if_neg c0] at h
    by_cases c5 : r = 5
    · rw [if_pos c5] at h
      unfold pCar at h
      have hy := yHow_r (b := b) (n := n) (x := x)
      by_cases w1 : yHow b n x = -1
      · rw [if_pos w1] at h; cases h
      · rw [if_neg w1] at h
        by_cases w2 : wN b n (yE b n x) 0 100
        · rw [if_pos w2] at h
          have v2 := w2.2
          cases h
          exact ⟨by dsimp only; omega, by dsimp only; omega, by dsimp only; omega, by dsimp only; omega, fun _ h => absurd rfl h, fun h => absurd (show (5 : Int) = 6 from h) (by decide), by dsimp only; omega, by dsimp only; omega, by dsimp only; omega, fun h => absurd (show (5 : Int) = 0 from h) (by decide), by dsimp only; omega, by dsimp only; omega, nil⟩
        · rw [if_neg w2] at h; cases h
    · rw [if_neg c5] at h
      by_cases c6 : r = 6
      · rw [if_pos c6] at h
        unfold pCat at h
        by_cases w1 : wN b n x 0 10
        · rw [if_pos w1] at h
          have v1 := w1.2
          cases h
          exact ⟨by dsimp only; omega, by dsimp only; omega, by dsimp only; omega, by dsimp only; omega, fun _ _ => by dsimp only; omega, fun _ => by dsimp only; omega, by dsimp only; omega, by dsimp only; omega, by dsimp only; omega, fun h => absurd (show (6 : Int) = 0 from h) (by decide), by dsimp only; omega, by dsimp only; omega, nil⟩
        · rw [if_neg w1] at h; cases h
      · rw [if_neg c6] at h
        unfold pAsk at h
        by_cases w1 : wN b n x 0 (if r = 4 then 100 else 99)
        · rw [if_pos w1] at h
          have v1 := w1.2
          have v2 : yV b n x ≤ 100 ∧ (r ≠ 4 → yV b n x ≤ 99) := by
            by_cases c4 : r = 4
            · rw [if_pos c4] at v1; exact ⟨by omega, fun h => absurd c4 h⟩
            · rw [if_neg c4] at v1; exact ⟨by omega, fun _ => by omega⟩
          by_cases w2 : wI b n (yE b n x) 249
          · rw [if_pos w2] at h
            cases ho : pCnd b n (yE b n (yE b n x)) with
            | inr e => rw [ho] at h; cases h
            | inl u =>
              rw [ho] at h
              cases h
              exact ⟨hr.1, hr.2, by dsimp only; omega, v2.1, fun h _ => v2.2 h, fun h => absurd h c6, by dsimp only; omega, by dsimp only; omega, by dsimp only; omega, fun h => absurd h c0, by dsimp only; omega, by dsimp only; omega, okc_cnd hb hn ho⟩
          · rw [if_neg w2] at h
            cases h
            exact ⟨hr.1, hr.2, by dsimp only; omega, v2.1, fun h _ => v2.2 h, fun h => absurd h c6, by dsimp only; omega, by dsimp only; omega, by dsimp only; omega, fun h => absurd h c0, by dsimp only; omega, by dsimp only; omega, nil⟩
        · rw [if_neg w1] at h; cases h
theorem zRg_law {b : Nat → Int} {n : Nat} (hb : zBy b) (hn : n ≤ 700) : ∀ (f x : Nat) (R R' : List zRu), (∀ r, r ∈ R → zRg r) → pLaw b n f x R = .inl R' → ∀ r, r ∈ R' → zRg r := by
  intro f
  induction f with
  | zero =>
    intro x R R' hR h
    unfold pLaw at h
    split at h
    · cases h; exact hR
    · cases h
  | succ f ih =>
    intro x R R' hR h
    unfold pLaw at h
    split at h
    · cases h; exact hR
    · cases ho : pRul b n x with
      | inr e => rw [ho] at h; cases h
      | inl q =>
        rw [ho] at h
        refine ih _ _ R' ?_ h
        intro r hr
        rcases List.mem_cons.1 hr with rfl | hr
        · unfold pRul at ho
          have hy := yRule_r (b := b) (n := n) (x := x)
          by_cases c : yRule b n x = -1
          · rw [if_pos c] at ho; cases ho
          · rw [if_neg c] at ho
            cases hp : pBdy b n (yRule b n x) (yE b n x) with
            | inr e => rw [hp] at ho; cases ho
            | inl u =>
              rw [hp] at ho
              dsimp only at ho
              split at ho
              · cases ho
                exact show zRg u.1 from zRg_bdy (r := yRule b n x) hb hn ⟨by omega, by omega⟩ hp
              · cases ho
        · exact hR r hr
/-! spans -/
theorem gP_gap {e : Nat → Int} : ∀ a : Nat, 0 ≤ gP e (a + 1) ∧ gP e (a + 1) ≤ (a : Int) ∧ (∀ j : Nat, gP e (a + 1) < (j : Int) → j ≤ a → e j = 0) ∧ gP e ((gP e (a + 1)).toNat + 1) = gP e (a + 1) := by
  intro a
  induction a with
  | zero =>
    have e1 : gP e (0 + 1) = 0 := by show (if e 0 = 0 then gP e 0 else ((0 : Nat) : Int)) = 0; split <;> rfl
    rw [e1]
    exact ⟨by omega, by omega, fun j h1 h2 => by omega, by rw [Int.toNat_zero]; exact e1⟩
  | succ a ih =>
    obtain ⟨h1, h2, h3, h4⟩ := ih
    by_cases c : e (a + 1) = 0
    · have e1 : gP e (a + 1 + 1) = gP e (a + 1) := by show (if e (a + 1) = 0 then gP e (a + 1) else ((a + 1 : Nat) : Int)) = _; rw [if_pos c]
      rw [e1]
      refine ⟨h1, by omega, fun j g1 g2 => ?_, h4⟩
      by_cases d : j = a + 1
      · subst d; exact c
      · exact h3 j g1 (by omega)
    · have e1 : gP e (a + 1 + 1) = ((a + 1 : Nat) : Int) := by show (if e (a + 1) = 0 then gP e (a + 1) else ((a + 1 : Nat) : Int)) = _; rw [if_neg c]
      rw [e1]
      refine ⟨by omega, by omega, fun j g1 g2 => by omega, ?_⟩
      rw [Int.toNat_natCast]
      exact e1
theorem gL_gap {R : List zRu} {p a : Nat} (h : p ≤ a) (hn : ∀ j : Nat, p < j → j ≤ a → rSe (j : Int) R = none) : gL R (a + 1) = gL R (p + 1) := by
  induction a with
  | zero => rw [show p = 0 by omega]
  | succ a ih =>
    by_cases e : p = a + 1
    · rw [e]
    · show (rSe ((a + 1 : Nat) : Int) R).getD (gL R (a + 1)) = _
      rw [hn (a + 1) (by omega) (Nat.le_refl _)]
      exact ih (by omega) (fun j h1 h2 => hn j h1 (by omega))
theorem dp_sv : ∀ (c : List zStp) (k : Nat), dp c k → ∀ s, s ∈ c → zSv s := by
  intro c
  induction c with
  | nil => intro k _ s h; exact absurd h (by simp)
  | cons s0 c ih =>
    rintro k ⟨h0, h1, h2, h3⟩ s hs
    rcases List.mem_cons.1 hs with rfl | hs
    · exact h0
    · rcases h0 with h0 | h0 | h0 | h0
      · exact ih _ (h1 h0.1).2 s hs
      · exact ih _ (h2 h0).2 s hs
      · exact ih _ (h3 (Or.inl h0)).2 s hs
      · exact ih _ (h3 (Or.inr h0)).2 s hs
theorem ev_c {w w' : Nat → Int} : ∀ (c : List zStp) (st : List Nat), (∀ s, s ∈ c → s.1 = 0 → zTs w s = zTs w' s) → ev w c st = ev w' c st := by
  intro c
  induction c with
  | nil => intro st _; rfl
  | cons s c ih =>
    intro st h
    show ev w c (ev1 w s st) = ev w' c (ev1 w' s st)
    have e : ev1 w s st = ev1 w' s st := by
      unfold ev1
      by_cases c0 : s.1 = 0
      · rw [if_pos c0, if_pos c0, h s (List.mem_cons_self ..) c0]
      · rw [if_neg c0, if_neg c0]
    rw [e]
    exact ih _ (fun s' hs => h s' (List.mem_cons_of_mem _ hs))
theorem zFi_c {kind : Int} {w w' : Nat → Int} : ∀ (R : List zRu) (o : Int), (∀ r, r ∈ R → hv w r.2.2.2.2 = hv w' r.2.2.2.2) → zFi kind w o R = zFi kind w' o R := by
  intro R
  induction R with
  | nil => intro o _; rfl
  | cons r R ih =>
    intro o h
    show zFi kind w (if r.1 = kind ∧ hv w r.2.2.2.2 = 1 then r.2.1 else o) R = zFi kind w' (if r.1 = kind ∧ hv w' r.2.2.2.2 = 1 then r.2.1 else o) R
    rw [h r (List.mem_cons_self ..)]
    exact ih _ (fun r' hr => h r' (List.mem_cons_of_mem _ hr))
theorem zFi_in {kind : Int} {w : Nat → Int} : ∀ (R : List zRu) (o : Int), zFi kind w o R = o ∨ ∃ r, r ∈ R ∧ r.1 = kind ∧ zFi kind w o R = r.2.1 := by
  intro R
  induction R with
  | nil => intro o; exact Or.inl rfl
  | cons r R ih =>
    intro o
    by_cases c : r.1 = kind ∧ hv w r.2.2.2.2 = 1
    · have e : zFi kind w o (r :: R) = zFi kind w r.2.1 R := by show zFi kind w (if _ then _ else _) R = _; rw [if_pos c]
      rw [e]
      rcases ih r.2.1 with h | ⟨r', h1, h2, h3⟩
      · exact Or.inr ⟨r, List.mem_cons_self .., c.1, h⟩
      · exact Or.inr ⟨r', List.mem_cons_of_mem _ h1, h2, h3⟩
    · have e : zFi kind w o (r :: R) = zFi kind w o R := by show zFi kind w (if _ then _ else _) R = _; rw [if_neg c]
      rw [e]
      rcases ih o with h | ⟨r', h1, h2, h3⟩
      · exact Or.inl h
      · exact Or.inr ⟨r', List.mem_cons_of_mem _ h1, h2, h3⟩
theorem hv_c {w w' : Nat → Int} {c : List zStp} (hd : dp c 0) (h : ∀ j, j < 7 → w j = w' j) : hv w c = hv w' c := by
  unfold hv
  rw [ev_c (w := w) (w' := w') c [] (fun s hs h0 => ?_)]
  have hs' := dp_sv c 0 hd s hs
  have h1 : 0 ≤ s.2.1 ∧ s.2.1 ≤ 6 := by
    rcases hs' with g | g | g | g
    · exact ⟨g.2.1, g.2.2.1⟩
    · omega
    · omega
    · omega
  unfold zTs
  rw [h s.2.1.toNat (by omega)]
/-- within a span a condition says the same -/
theorem hv_sp {w : Nat → Int} {c : List zStp} {p a : Nat} (hd : dp c 0) (hp : p ≤ a) (ha : a < 100) (hw : w 2 = (a : Int)) (hn : ∀ j : Nat, p < j → j ≤ a → ¬ zEd c j) : hv w c = hv (zup w 2 (p : Int)) c := by
  unfold hv
  rw [ev_c (w := w) (w' := zup w 2 (p : Int)) c [] (fun s hs h0 => ?_)]
  have hs' := dp_sv c 0 hd s hs
  have h1 : 0 ≤ s.2.1 ∧ s.2.1 ≤ 6 ∧ 0 ≤ s.2.2.1 ∧ s.2.2.1 ≤ 2 ∧ 0 ≤ s.2.2.2 := by
    rcases hs' with g | g | g | g
    · exact ⟨g.2.1, g.2.2.1, g.2.2.2.1, g.2.2.2.2.1, g.2.2.2.2.2.1⟩
    · omega
    · omega
    · omega
  unfold zTs
  by_cases c2 : s.2.1 = 2
  · have e2 : s.2.1.toNat = 2 := by omega
    rw [e2, hw, zup_eq]
    -- no AGE between at which it turns
    have t1 : s.2.2.1 ≠ 1 → ¬ ((p : Int) < s.2.2.2 ∧ s.2.2.2 ≤ (a : Int)) := by
      rintro g ⟨g1, g2⟩
      exact hn s.2.2.2.toNat (by omega) (by omega) ⟨s, hs, h0, c2, Or.inl ⟨g, by omega⟩⟩
    have t2 : s.2.2.1 ≠ 0 → ¬ ((p : Int) < s.2.2.2 + 1 ∧ s.2.2.2 + 1 ≤ (a : Int)) := by
      rintro g ⟨g1, g2⟩
      exact hn (s.2.2.2 + 1).toNat (by omega) (by omega) ⟨s, hs, h0, c2, Or.inr ⟨g, by omega⟩⟩
    have key : ((s.2.2.1 = 0 ∧ (a : Int) < s.2.2.2) ∨ (s.2.2.1 = 1 ∧ s.2.2.2 < (a : Int)) ∨ (s.2.2.1 = 2 ∧ (a : Int) = s.2.2.2)) ↔ ((s.2.2.1 = 0 ∧ (p : Int) < s.2.2.2) ∨ (s.2.2.1 = 1 ∧ s.2.2.2 < (p : Int)) ∨ (s.2.2.1 = 2 ∧ (p : Int) = s.2.2.2)) := by
      rcases (show s.2.2.1 = 0 ∨ s.2.2.1 = 1 ∨ s.2.2.1 = 2 by omega) with g | g | g
      · have := t1 (by omega); omega
      · have := t2 (by omega); omega
      · have := t1 (by omega); have := t2 (by omega); omega
    by_cases d : (s.2.2.1 = 0 ∧ (a : Int) < s.2.2.2) ∨ (s.2.2.1 = 1 ∧ s.2.2.2 < (a : Int)) ∨ (s.2.2.1 = 2 ∧ (a : Int) = s.2.2.2)
    · rw [if_pos d, if_pos (key.1 d)]
    · rw [if_neg d, if_neg (fun h => d (key.2 h))]
  · rw [zup_ne (show s.2.1.toNat ≠ 2 by omega)]
/-- the LAW as numbers, of its rules and the edges -/
def zLE (R : List zRu) (e : Nat → Int) : zE := (fun k w o => zFi k w o R, fun a => (gL R (a + 1)).1, fun a => (gL R (a + 1)).2, fun a => gP e (a + 1), rCat R, fun h => rCar (h : Int) R)
theorem gL_r {R : List zRu} (hg : ∀ r, r ∈ R → zRg r) : ∀ j, 0 ≤ (gL R j).1 ∧ (gL R j).1 ≤ 99 ∧ 0 ≤ (gL R j).2 ∧ (gL R j).2 ≤ 99 := by
  intro j
  cases j with
  | zero => exact ⟨by show (0 : Int) ≤ 0; omega, by show (0 : Int) ≤ 99; omega, by show (0 : Int) ≤ 0; omega, by show (0 : Int) ≤ 99; omega⟩
  | succ a =>
    rw [gL_rB hg a]
    cases hb : rB (a : Int) R with
    | none => exact ⟨by show (0 : Int) ≤ 0; omega, by show (0 : Int) ≤ 99; omega, by show (0 : Int) ≤ 0; omega, by show (0 : Int) ≤ 99; omega⟩
    | some q =>
      obtain ⟨_, _, h3⟩ := rB_le R q hb
      obtain ⟨_, _, _, _, _, _, g1, _, g2, _, g3, g4, _⟩ := hg q h3
      exact ⟨g1, g2, g3, g4⟩
theorem rCat_r : ∀ R : List zRu, (∀ r, r ∈ R → zRg r) → 0 ≤ rCat R ∧ rCat R ≤ 10 := by
  intro R
  induction R with
  | nil => intro _; exact ⟨Int.le_refl 0, by show (0 : Int) ≤ 10; omega⟩
  | cons r R ih =>
    intro h
    have h1 := h r (List.mem_cons_self ..)
    have h2 := ih (fun r' hr => h r' (List.mem_cons_of_mem _ hr))
    show 0 ≤ (if r.1 = 6 then r.2.1 else rCat R) ∧ (if r.1 = 6 then r.2.1 else rCat R) ≤ 10
    by_cases c : r.1 = 6
    · rw [if_pos c]; exact ⟨h1.2.2.1, h1.2.2.2.2.2.1 c⟩
    · rw [if_neg c]; exact h2
theorem rCar_r {h : Int} : ∀ R : List zRu, (∀ r, r ∈ R → zRg r) → 0 ≤ rCar h R ∧ rCar h R ≤ 100 := by
  intro R
  induction R with
  | nil => intro _; exact ⟨Int.le_refl 0, by show (0 : Int) ≤ 100; omega⟩
  | cons r R ih =>
    intro hh
    have h1 := hh r (List.mem_cons_self ..)
    have h2 := ih (fun r' hr => hh r' (List.mem_cons_of_mem _ hr))
    show 0 ≤ (if r.1 = 5 ∧ r.2.2.1 = h then r.2.1 else rCar h R) ∧ (if r.1 = 5 ∧ r.2.2.1 = h then r.2.1 else rCar h R) ≤ 100
    by_cases c : r.1 = 5 ∧ r.2.2.1 = h
    · rw [if_pos c]; exact ⟨h1.2.2.1, h1.2.2.2.1⟩
    · rw [if_neg c]; exact h2
theorem zLE_ok {R : List zRu} {e : Nat → Int} (hg : ∀ r, r ∈ R → zRg r) (h1 : ∀ a : Nat, a < 100 → ∀ v, rSe (a : Int) R = some v → e a = 1) (h2 : ∀ r, r ∈ R → ∀ a, a < 100 → zEd r.2.2.2.2 a → e a = 1) : zEok (zLE R e) := by
  have rng : ∀ (k : Int) (w : Nat → Int), k ≠ 4 → k ≠ 5 → 0 ≤ zFi k w 0 R ∧ zFi k w 0 R ≤ 99 := by
    intro k w k4 k5
    rcases zFi_in (kind := k) (w := w) R 0 with h | ⟨r, g1, g2, g3⟩
    · rw [h]; omega
    · have hr := hg r g1
      rw [g3]
      exact ⟨hr.2.2.1, hr.2.2.2.2.1 (by omega) (by omega)⟩
  refine ⟨⟨fun k w w' o hw => zFi_c R o (fun r hr => hv_c (hg r hr).2.2.2.2.2.2.2.2.2.2.2.2 hw), fun w => rng 1 w (by omega) (by omega), fun w => rng 2 w (by omega) (by omega), fun w => rng 3 w (by omega) (by omega), fun w => ?_⟩, fun a _ => gL_r hg (a + 1), rCat_r R hg, fun h _ => rCar_r R hg, fun a ha => ?_, fun a k o w ha hw => ?_⟩
  · rcases zFi_in (kind := 4) (w := w) R 100 with h | ⟨r, g1, g2, g3⟩
    · show 0 ≤ zFi 4 w 100 R ∧ zFi 4 w 100 R ≤ 100
      rw [h]; omega
    · have hr := hg r g1
      show 0 ≤ zFi 4 w 100 R ∧ zFi 4 w 100 R ≤ 100
      rw [g3]
      exact ⟨hr.2.2.1, hr.2.2.2.1⟩
  · obtain ⟨p1, p2, p3, p4⟩ := gP_gap (e := e) a
    have none' : ∀ j : Nat, (gP e (a + 1)).toNat < j → j ≤ a → rSe (j : Int) R = none := by
      intro j g1 g2
      cases hs : rSe (j : Int) R with
      | none => rfl
      | some v =>
        have q1 := h1 j (by omega) v hs
        have q2 := p3 j (by omega) g2
        omega
    have hL := gL_gap (R := R) (p := (gP e (a + 1)).toNat) (a := a) (by omega) none'
    exact ⟨p1, p2, p4, by show (gL R _).1 = (gL R _).1; rw [hL]; rfl, by show (gL R _).2 = (gL R _).2; rw [hL]; rfl⟩
  · obtain ⟨p1, p2, p3, p4⟩ := gP_gap (e := e) a
    show zFi k w o R = zFi k (zup w 2 (gP e (a + 1))) o R
    refine zFi_c R o (fun r hr => ?_)
    have := hv_sp (w := w) (c := r.2.2.2.2) (p := (gP e (a + 1)).toNat) (a := a) (hg r hr).2.2.2.2.2.2.2.2.2.2.2.2 (by omega) ha hw (fun j g1 g2 g3 => by
      have q1 := h2 r hr j (by omega) g3
      have q2 := p3 j (by omega) g2
      omega)
    rw [show (((gP e (a + 1)).toNat : Nat) : Int) = gP e (a + 1) by omega] at this
    exact this

/-! law: the reference evaluates -/
def rAt : List zRu → Nat → Option zRu
  | [], _ => none
  | r :: R, j => if j = R.length then some r else rAt R j
theorem rAt_lt : ∀ (R : List zRu) (j : Nat) (r : zRu), rAt R j = some r → j < R.length ∧ r ∈ R := by
  intro R
  induction R with
  | nil => intro j r h; cases h
  | cons r0 R ih =>
    intro j r h
    unfold rAt at h
    by_cases e : j = R.length
    · rw [if_pos e] at h
      cases h
      exact ⟨by rw [List.length_cons]; omega, List.mem_cons_self ..⟩
    · rw [if_neg e] at h
      obtain ⟨h1, h2⟩ := ih j r h
      exact ⟨by rw [List.length_cons]; omega, List.mem_cons_of_mem _ h2⟩
theorem rAt_some : ∀ (R : List zRu) (j : Nat), j < R.length → ∃ r, rAt R j = some r := by
  intro R
  induction R with
  | nil => intro j h; exact absurd h (Nat.not_lt_zero j)
  | cons r0 R ih =>
    intro j h
    rw [List.length_cons] at h
    unfold rAt
    by_cases e : j = R.length
    · rw [if_pos e]; exact ⟨r0, rfl⟩
    · rw [if_neg e]; exact ih j (by omega)
theorem rAt_cons {r : zRu} {R : List zRu} {j : Nat} (h : j < R.length) : rAt (r :: R) j = rAt R j := by
  show (if j = R.length then some r else rAt R j) = rAt R j
  rw [if_neg (by omega)]
theorem rAt_top {r : zRu} {R : List zRu} : rAt (r :: R) R.length = some r := by
  show (if R.length = R.length then some r else rAt R R.length) = some r
  rw [if_pos rfl]
theorem zRw_at {M : zM} {W : Nat} : ∀ (R : List zRu) (j : Nat) (r : zRu), zRw M 0 W R → rAt R j = some r → zRo M W j r := by
  intro R
  induction R with
  | nil => intro j r _ h; cases h
  | cons r0 R ih =>
    intro j r hw h
    unfold rAt at h
    by_cases e : j = R.length
    · rw [if_pos e] at h
      cases h
      have := hw.1
      rw [Nat.zero_add, ← e] at this
      exact this
    · rw [if_neg e] at h
      exact ih j r hw.2 h
theorem zRw_c {M M' : zM} {W : Nat} (hW : W ≤ 1000) : ∀ R : List zRu, R.length ≤ 40 → zRw M 0 W R → (∀ q, 97 ≤ q → q ≤ 107 → ∀ j, j < zlo q → M' q j = M q j) → zRw M' 0 W R := by
  intro R
  induction R with
  | nil => intro _ _ _; exact trivial
  | cons r R ih =>
    rintro hl ⟨⟨h1, h2, h3, h4, f, h5, h6, h7, h8⟩, h9⟩ e
    rw [List.length_cons] at hl
    have e' : ∀ q, 98 ≤ q → q ≤ 103 → ∀ j, j < 40 → M' q j = M q j := fun q a b j hj => e q (by omega) (by omega) j (by unfold zlo; rw [if_neg (by omega), if_pos (by omega)]; exact hj)
    refine ⟨⟨?_, ?_, ?_, ?_, f, ?_, ?_, h7, zMk_c _ _ h8 (fun q t a b c d => e q (by omega) b t (by unfold zlo; rw [if_neg (by omega), if_neg (by omega)]; omega))⟩, ih (by omega) h9 e⟩
    · rw [e' 98 (by omega) (by omega) _ (by omega)]; exact h1
    · rw [e' 99 (by omega) (by omega) _ (by omega)]; exact h2
    · rw [e' 100 (by omega) (by omega) _ (by omega), e' 101 (by omega) (by omega) _ (by omega)]; exact h3
    · rw [e' 100 (by omega) (by omega) _ (by omega)]; exact h4
    · rw [e' 102 (by omega) (by omega) _ (by omega)]; exact h5
    · rw [e' 103 (by omega) (by omega) _ (by omega)]; exact h6
/-- the pile -/
def zPi (M : zM) : List Nat → Prop
  | [] => True
  | v :: st => M 112 st.length = (v : Int) ∧ zPi M st
theorem zPi_c {M M' : zM} : ∀ st : List Nat, zPi M st → (∀ j, j < st.length → M' 112 j = M 112 j) → zPi M' st := by
  intro st
  induction st with
  | nil => intro _ _; exact trivial
  | cons v st ih =>
    intro h e
    rw [List.length_cons] at e
    exact ⟨by rw [e _ (by omega)]; exact h.1, ih h.2 (fun j hj => e j (by omega))⟩
theorem g11_holds {i r f : Nat} {c : List zStp} {M : zM} (hr : r < 40) (h3 : M 102 r = (f : Int)) (h4 : M 103 r = ((f + c.length : Nat) : Int)) (h7 : f + c.length ≤ 1000) (hk : zMk M f c) (hd : dp c 0) (hw : zWd (M 111)) : zO (g_X11_holds (zKn i) (r : Int) M) (fun u => u.2 = hv (M 111) c ∧ zFr [112] M u.1) := by
  have key : ∀ (c' : List zStp) (x : Nat) (st : List Nat) (F : Nat) (A : zM), x + c'.length = f + c.length → c'.length < F → dp c' st.length → zBt st → st.length ≤ 40 → zMk M x c' → zFr [112] M A → zPi A st → zO (zwh (fun t : Int × Int × zM => gb_X11_holds_9 (zKn i) (r : Int) t.1 t.2.1 t.2.2) F ((st.length : Int), (x : Int), A)) (fun u => u.1 = ((ev (M 111) c' st).length : Int) ∧ zFr [112] M u.2 ∧ zPi u.2 (ev (M 111) c' st)) := by
    intro c'
    induction c' with
    | nil =>
      intro x st F A hx hF hd hb hl hk hf hp
      obtain ⟨F, rfl⟩ : ∃ g, F = g + 1 := ⟨F - 1, by omega⟩
      refine zO_wh1 ?_
      show zO (gb_X11_holds_9 (zKn i) (r : Int) (st.length : Int) (x : Int) A) _
      rw [gb_X11_holds_9, Int.toNat_natCast, hf 103 (by decide), h4]
      rw [List.length_nil] at hx
      exact zO_gd (by omega) (zO_brp ⟨by omega, by omega⟩ ⟨by omega, by omega⟩ (by omega) (zO_inr ⟨rfl, hf, hp⟩))
    | cons s c' ih =>
      intro x st F A hx hF hd hb hl hk hf hp
      rw [List.length_cons] at hx hF
      obtain ⟨F, rfl⟩ : ∃ g, F = g + 1 := ⟨F - 1, by omega⟩
      obtain ⟨g1, g2, g3⟩ := ev1_ok (w := M 111) hd hb hl
      have go := fun B hfB hpB => ih (x + 1) (ev1 (M 111) s st) F B (by omega) (by omega) g1 g2 g3 hk.2 hfB hpB
      obtain ⟨h0, h1, h2, h3'⟩ := hd
      refine zO_wh1 ?_
      show zO (gb_X11_holds_9 (zKn i) (r : Int) (st.length : Int) (x : Int) A) _
      rw [gb_X11_holds_9]
      simp only [Int.toNat_natCast, hf 103 (by decide), hf 104 (by decide), hf 105 (by decide), hf 106 (by decide), hf 107 (by decide), hf 111 (by decide), h4, hk.1.1, hk.1.2.1, hk.1.2.2.1, hk.1.2.2.2]
      refine zO_gd (by omega) (zO_brn ⟨by omega, by omega⟩ ⟨by omega, by omega⟩ (by omega) (zO_gd (by omega) ?_))
      -- the next turn
      have nx : ∀ (y : Int) (B : zM), y = ((ev1 (M 111) s st).length : Int) → zFr [112] M B → zPi B (ev1 (M 111) s st) → zO (zwh (fun t : Int × Int × zM => gb_X11_holds_9 (zKn i) (r : Int) t.1 t.2.1 t.2.2) F (y, (x : Int) + 1, B)) (fun u => u.1 = ((ev (M 111) (s :: c') st).length : Int) ∧ zFr [112] M u.2 ∧ zPi u.2 (ev (M 111) (s :: c') st)) := by
        rintro y B rfl hfB hpB
        rw [show (x : Int) + 1 = ((x + 1 : Nat) : Int) by omega]
        exact go B hfB hpB
      have sr' : zr s.1 := by rcases h0 with h | h | h | h <;> omega
      by_cases c0 : s.1 = 0
      · have hv0 : 0 ≤ s.2.1 ∧ s.2.1 ≤ 6 ∧ 0 ≤ s.2.2.1 ∧ s.2.2.1 ≤ 2 ∧ 0 ≤ s.2.2.2 ∧ s.2.2.2 ≤ 9999 := by
          rcases h0 with h | h | h | h
          · exact h.2
          · omega
          · omega
          · omega
        have hww := hw s.2.1.toNat (by omega)
        have e1 : ev1 (M 111) s st = zTs (M 111) s :: st := by unfold ev1; rw [if_pos c0]
        have hsg : rSg s = if s.2.2.1 = 0 then 60 else if s.2.2.1 = 1 then 62 else 61 := by unfold rSg; rw [if_pos c0]
        rw [hsg]
        refine zO_brn sr' ⟨by omega, by omega⟩ (fun h => h c0) (zO_gd (by omega) (zO_gd (by omega) (zO_lt (zO_gd (by omega) (zO_b1q (Q := fun v => v = (zTs (M 111) s : Int)) ?_ ?_)))))
        · unfold zTs
          rcases (show s.2.2.1 = 0 ∨ s.2.2.1 = 1 ∨ s.2.2.1 = 2 by omega) with e | e | e
          · rw [if_pos e]
            refine zO_brn (by omega) (by omega) (by omega) (zO_gd (by omega) (zO_br ⟨by omega, by omega⟩ ⟨by omega, by omega⟩ (fun d => zO_some ?_) (fun d => zO_some ?_)))
            · rw [if_neg (by omega)]; rfl
            · rw [if_pos (by omega)]; rfl
          · rw [if_neg (show ¬ s.2.2.1 = 0 by omega), if_pos e]
            refine zO_brp (by omega) (by omega) (by omega) (zO_gd (by omega) (zO_brn (by omega) (by omega) (by omega) (zO_gd (by omega) (zO_br ⟨by omega, by omega⟩ ⟨by omega, by omega⟩ (fun d => zO_some ?_) (fun d => zO_some ?_)))))
            · rw [if_neg (by omega)]; rfl
            · rw [if_pos (by omega)]; rfl
          · rw [if_neg (show ¬ s.2.2.1 = 0 by omega), if_neg (show ¬ s.2.2.1 = 1 by omega)]
            refine zO_brp (by omega) (by omega) (by omega) (zO_gd (by omega) (zO_brp (by omega) (by omega) (by omega) (zO_gd (by omega) (zO_br ⟨by omega, by omega⟩ ⟨by omega, by omega⟩ (fun d => zO_some ?_) (fun d => zO_some ?_)))))
            · rw [if_neg (by omega)]; rfl
            · rw [if_pos (by omega)]; rfl
        · rintro v rfl
          have ht := zTs_2 (w := M 111) (s := s)
          refine zO_gd ⟨by omega, by omega, by omega⟩ (zO_lt (zO_lt (zO_lt (zO_inl (nx _ _ ?_ (hf.st (by decide)) ?_)))))
          · rw [e1, List.length_cons]; omega
          · rw [e1]
            exact ⟨zst_eq, zPi_c _ hp (fun j hj => zst_ns (by omega))⟩
      · cases st with
        | nil =>
          rcases h0 with h0 | h0 | h0 | h0
          · exact absurd h0.1 c0
          · exact absurd (h2 h0).1 (by simp)
          · exact absurd (h3' (Or.inl h0)).1 (by simp)
          · exact absurd (h3' (Or.inr h0)).1 (by simp)
        | cons v st =>
          have v2 := hb v (List.mem_cons_self ..)
          have pv := hp.1
          rw [List.length_cons] at hl ⊢
          refine zO_brp sr' ⟨by omega, by omega⟩ c0 (zO_gd (by omega) ?_)
          by_cases c1 : s.1 = 1
          · have e1 : ev1 (M 111) s (v :: st) = (1 - v) :: st := by unfold ev1; rw [if_neg c0]; dsimp only; rw [if_pos c1]
            refine zO_brn sr' ⟨by omega, by omega⟩ (fun h => h c1) (zO_gd (by omega) ?_)
            rw [show (((st.length + 1 : Nat) : Int) - 1).toNat = st.length by omega, pv]
            refine zO_br ⟨by omega, by omega⟩ (by omega) (fun d => zO_gd (by refine ⟨?_, by omega, by omega⟩; first | exact Or.inl trivial | exact Or.inr trivial | omega) (zO_lt (zO_lt (zO_inl (nx _ _ ?_ (hf.st (by decide)) ?_))))) (fun d => zO_gd (by refine ⟨?_, by omega, by omega⟩; first | exact Or.inl trivial | exact Or.inr trivial | omega) (zO_lt (zO_lt (zO_inl (nx _ _ ?_ (hf.st (by decide)) ?_)))))
            · rw [e1, List.length_cons]
            · rw [e1]
              refine ⟨?_, zPi_c _ hp.2 (fun j hj => zst_ns (by omega))⟩
              rw [zst_eq]; omega
            · rw [e1, List.length_cons]
            · rw [e1]
              refine ⟨?_, zPi_c _ hp.2 (fun j hj => zst_ns (by omega))⟩
              rw [zst_eq]; omega
          · have c23 : s.1 = 2 ∨ s.1 = 3 := by
              rcases h0 with h0 | h0 | h0 | h0
              · exact absurd h0.1 c0
              · exact absurd h0 c1
              · exact Or.inl h0
              · exact Or.inr h0
            cases st with
            | nil => exact absurd (h3' c23).1 (by simp)
            | cons u st =>
              have u2 := hb u (List.mem_cons_of_mem _ (List.mem_cons_self ..))
              have pu := hp.2.1
              rw [List.length_cons] at pv hl ⊢
              refine zO_brp sr' ⟨by omega, by omega⟩ c1 (zO_lt (zO_gd (by omega) ?_))
              simp only [show (((st.length + 1 + 1 : Nat) : Int) + -1 - 1).toNat = st.length by omega, show (((st.length + 1 + 1 : Nat) : Int) + -1).toNat = st.length + 1 by omega, pv, pu]
              have ev2 : ∀ z : Nat, ev1 (M 111) s (v :: u :: st) = z :: st → zPi (zst A 112 st.length (z : Int)) (ev1 (M 111) s (v :: u :: st)) ∧ ((st.length + 1 + 1 : Nat) : Int) + -1 = ((ev1 (M 111) s (v :: u :: st)).length : Int) := by
                intro z hz
                rw [hz, List.length_cons]
                exact ⟨⟨zst_eq, zPi_c _ hp.2.2 (fun j hj => zst_ns (by omega))⟩, by omega⟩
              by_cases c2 : s.1 = 2
              · have e1 : ev1 (M 111) s (v :: u :: st) = (u * v) :: st := by
                  unfold ev1
                  rw [if_neg c0]
                  dsimp only
                  rw [if_neg c1]
                  try dsimp only
                  rw [if_pos c2]
                refine zO_brn sr' ⟨by omega, by omega⟩ (fun h => h c2) (zO_gd (by omega) ?_)
                unfold zsp2
                refine zO_s1 ?_
                have zer : u * v = 0 → zO (zlt (zst A 112 st.length 0) (fun M13 => zlt ((x : Int) + 1) (fun x14 => some (Sum.inl (((st.length + 1 + 1 : Nat) : Int) + -1, x14, M13))))) (zEl (fun s' : Int × Int × zM => zO (zwh (fun t : Int × Int × zM => gb_X11_holds_9 (zKn i) (r : Int) t.1 t.2.1 t.2.2) F s') (fun u' => u'.1 = ((ev (M 111) (s :: c') (v :: u :: st)).length : Int) ∧ zFr [112] M u'.2 ∧ zPi u'.2 (ev (M 111) (s :: c') (v :: u :: st)))) (fun u' : Int × zM => u'.1 = ((ev (M 111) (s :: c') (v :: u :: st)).length : Int) ∧ zFr [112] M u'.2 ∧ zPi u'.2 (ev (M 111) (s :: c') (v :: u :: st)))) := by
                  intro hz
                  obtain ⟨k1, k2⟩ := ev2 (u * v) e1
                  rw [hz] at k1
                  exact zO_lt (zO_lt (zO_inl (nx _ _ k2 (hf.st (by decide)) k1)))
                refine zO_br ⟨by omega, by omega⟩ (by omega) (fun d => zO_some (show zO _ _ from zO_gd (by refine ⟨?_, by omega, by omega⟩; first | exact Or.inl trivial | exact Or.inr trivial | omega) (zer (by rw [show u = 0 by omega, Nat.zero_mul])))) (fun d => zO_gd (by omega) (zO_br ⟨by omega, by omega⟩ (by omega) (fun d' => zO_some (show zO _ _ from zO_gd (by refine ⟨?_, by omega, by omega⟩; first | exact Or.inl trivial | exact Or.inr trivial | omega) (zer (by rw [show v = 0 by omega, Nat.mul_zero])))) (fun d' => ?_)))
                obtain ⟨k1, k2⟩ := ev2 (u * v) e1
                rw [show u * v = 1 by rw [show u = 1 by omega, show v = 1 by omega]] at k1
                exact zO_gd (by refine ⟨?_, by omega, by omega⟩; first | exact Or.inl trivial | exact Or.inr trivial | omega) (zO_lt (zO_lt (zO_some (show zO _ _ from zO_inl (nx _ _ k2 (hf.st (by decide)) k1)))))
              · have e1 : ev1 (M 111) s (v :: u :: st) = (u + v - u * v) :: st := by
                  unfold ev1
                  rw [if_neg c0]
                  dsimp only
                  rw [if_neg c1]
                  try dsimp only
                  rw [if_neg c2]
                refine zO_brp sr' ⟨by omega, by omega⟩ c2 (zO_gd (by omega) ?_)
                unfold zsp2
                refine zO_s1 ?_
                have one : u + v - u * v = 1 → zO (zlt (zst A 112 st.length 1) (fun M13 => zlt ((x : Int) + 1) (fun x14 => some (Sum.inl (((st.length + 1 + 1 : Nat) : Int) + -1, x14, M13))))) (zEl (fun s' : Int × Int × zM => zO (zwh (fun t : Int × Int × zM => gb_X11_holds_9 (zKn i) (r : Int) t.1 t.2.1 t.2.2) F s') (fun u' => u'.1 = ((ev (M 111) (s :: c') (v :: u :: st)).length : Int) ∧ zFr [112] M u'.2 ∧ zPi u'.2 (ev (M 111) (s :: c') (v :: u :: st)))) (fun u' : Int × zM => u'.1 = ((ev (M 111) (s :: c') (v :: u :: st)).length : Int) ∧ zFr [112] M u'.2 ∧ zPi u'.2 (ev (M 111) (s :: c') (v :: u :: st)))) := by
                  intro hz
                  obtain ⟨k1, k2⟩ := ev2 (u + v - u * v) e1
                  rw [hz] at k1
                  exact zO_lt (zO_lt (zO_inl (nx _ _ k2 (hf.st (by decide)) k1)))
                refine zO_br ⟨by omega, by omega⟩ (by omega) (fun d => zO_some (show zO _ _ from zO_gd (by refine ⟨?_, by omega, by omega⟩; first | exact Or.inl trivial | exact Or.inr trivial | omega) (one (by rw [show u = 1 by omega, Nat.one_mul]; omega)))) (fun d => zO_gd (by omega) (zO_br ⟨by omega, by omega⟩ (by omega) (fun d' => ?_) (fun d' => zO_some (show zO _ _ from zO_gd (by refine ⟨?_, by omega, by omega⟩; first | exact Or.inl trivial | exact Or.inr trivial | omega) (one (by rw [show v = 1 by omega, Nat.mul_one]; omega))))))
                obtain ⟨k1, k2⟩ := ev2 (u + v - u * v) e1
                rw [show u + v - u * v = 0 by rw [show u = 0 by omega, show v = 0 by omega]] at k1
                exact zO_gd (by refine ⟨?_, by omega, by omega⟩; first | exact Or.inl trivial | exact Or.inr trivial | omega) (zO_lt (zO_lt (zO_some (show zO _ _ from zO_inl (nx _ _ k2 (hf.st (by decide)) k1)))))
  unfold g_X11_holds
  rw [Int.toNat_natCast, h3]
  refine zO_gd (by omega) (zO_lt (zO_b2 (zO_mono (key c f [] zfu M rfl (by unfold zfu; omega) hd (fun v hv => absurd hv (by simp)) (by simp) hk zFr_refl trivial) ?_)))
  rintro ⟨y, A⟩ ⟨e1, e2, e3⟩
  dsimp only at e1 e2 e3 ⊢
  obtain ⟨a, b⟩ := ev_ok (w := M 111) c [] hd (fun v hv => absurd hv (by simp)) (by simp)
  unfold hv
  cases he : ev (M 111) c [] with
  | nil =>
    rw [he] at e1
    exact zO_brp ⟨by rw [e1]; simp, by rw [e1]; simp⟩ (by omega) e1 (zO_some ⟨rfl, e2⟩)
  | cons v st =>
    rw [he] at e1 e3 a b
    rw [List.length_cons] at e1 b
    have hst : st = [] := List.length_eq_zero_iff.1 (by omega)
    subst hst
    have v2 := a v (List.mem_cons_self ..)
    have e4 : A 112 0 = (v : Int) := e3.1
    simp only [List.length_nil] at e1
    refine zO_brn ⟨by omega, by omega⟩ (by omega) (by omega) (zO_gd (by omega) ?_)
    have e5 : A 112 (Int.toNat 0) = (v : Int) := e4
    exact zO_br ⟨by rw [e5]; omega, by rw [e5]; omega⟩ (by omega) (fun h => zO_some ⟨by rw [e5] at h; dsimp only; omega, e2⟩) (fun h => zO_some ⟨by rw [e5] at h; dsimp only; omega, e2⟩)

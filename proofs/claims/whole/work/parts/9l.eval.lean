/-! law: what conditions say -/
def zSv (s : zStp) : Prop := (s.1 = 0 ∧ 0 ≤ s.2.1 ∧ s.2.1 ≤ 6 ∧ 0 ≤ s.2.2.1 ∧ s.2.2.1 ≤ 2 ∧ 0 ≤ s.2.2.2 ∧ s.2.2.2 ≤ 9999) ∨ s.1 = 1 ∨ s.1 = 2 ∨ s.1 = 3
def zTs (w : Nat → Int) (s : zStp) : Nat := if (s.2.2.1 = 0 ∧ w s.2.1.toNat < s.2.2.2) ∨ (s.2.2.1 = 1 ∧ s.2.2.2 < w s.2.1.toNat) ∨ (s.2.2.1 = 2 ∧ w s.2.1.toNat = s.2.2.2) then 1 else 0
def ev1 (w : Nat → Int) (s : zStp) (st : List Nat) : List Nat := if s.1 = 0 then zTs w s :: st else match st with
  | [] => []
  | v :: st => if s.1 = 1 then (1 - v) :: st else match st with
    | [] => [v]
    | u :: st => if s.1 = 2 then (u * v) :: st else (u + v - u * v) :: st
def ev (w : Nat → Int) : List zStp → List Nat → List Nat
  | [], st => st
  | s :: c, st => ev w c (ev1 w s st)
/-- no more than 40 in a row, never too few, at the end one at most -/
def dp : List zStp → Nat → Prop
  | [], k => k ≤ 1
  | s :: c, k => zSv s ∧ (s.1 = 0 → k + 1 ≤ 40 ∧ dp c (k + 1)) ∧ (s.1 = 1 → 1 ≤ k ∧ dp c k) ∧ (s.1 = 2 ∨ s.1 = 3 → 2 ≤ k ∧ dp c (k - 1))
def zBt (st : List Nat) : Prop := ∀ v, v ∈ st → v < 2
def rep : List Nat → Nat
  | [] => 1
  | v :: st => 2 * rep st + v
theorem rep_b : ∀ st : List Nat, zBt st → rep st < 2 ^ (st.length + 1) := by
  intro st
  induction st with
  | nil => intro _; show 1 < 2 ^ 1; omega
  | cons v st ih =>
    intro h
    have h1 := ih (fun u hu => h u (List.mem_cons_of_mem _ hu))
    have h2 := h v (List.mem_cons_self ..)
    show 2 * rep st + v < 2 ^ (st.length + 1 + 1)
    rw [Nat.pow_succ]
    omega
theorem rep_63 {st : List Nat} (h : zBt st) (hl : st.length ≤ 41) : rep st < 2 ^ 42 := by
  have h1 := rep_b st h
  have h2 : 2 ^ (st.length + 1) ≤ 2 ^ 42 := Nat.pow_le_pow_right (by omega) (by omega)
  omega
theorem zTs_2 {w : Nat → Int} {s : zStp} : zTs w s < 2 := by
  unfold zTs
  split <;> omega
/-- one step -/
theorem ev1_ok {w : Nat → Int} {s : zStp} {c : List zStp} {st : List Nat} (hd : dp (s :: c) st.length) (hb : zBt st) (hl : st.length ≤ 40) : dp c (ev1 w s st).length ∧ zBt (ev1 w s st) ∧ (ev1 w s st).length ≤ 40 := by
  obtain ⟨h0, h1, h2, h3⟩ := hd
  unfold ev1
  by_cases c0 : s.1 = 0
  · rw [if_pos c0]
    obtain ⟨a, b⟩ := h1 c0
    exact ⟨b, fun v hv => by rcases List.mem_cons.1 hv with rfl | hv; exact zTs_2; exact hb v hv, a⟩
  · rw [if_neg c0]
    cases st with
    | nil =>
      rcases h0 with h0 | h0 | h0 | h0
      · exact absurd h0.1 c0
      · have := (h2 h0).1; exact absurd this (by simp)
      · have := (h3 (Or.inl h0)).1; exact absurd this (by simp)
      · have := (h3 (Or.inr h0)).1; exact absurd this (by simp)
    | cons v st =>
      have v2 := hb v (List.mem_cons_self ..)
      have hb' : zBt st := fun u hu => hb u (List.mem_cons_of_mem _ hu)
      dsimp only
      by_cases c1 : s.1 = 1
      · rw [if_pos c1]
        exact ⟨(h2 c1).2, fun u hu => by rcases List.mem_cons.1 hu with rfl | hu; omega; exact hb' u hu, hl⟩
      · rw [if_neg c1]
        have c23 : s.1 = 2 ∨ s.1 = 3 := by
          rcases h0 with h0 | h0 | h0 | h0
          · exact absurd h0.1 c0
          · exact absurd h0 c1
          · exact Or.inl h0
          · exact Or.inr h0
        obtain ⟨a, b⟩ := h3 c23
        cases st with
        | nil => exact absurd a (by simp)
        | cons u st =>
          have u2 := hb' u (List.mem_cons_self ..)
          have hb'' : zBt st := fun u hu => hb' u (List.mem_cons_of_mem _ hu)
          have hmul : u * v < 2 ∧ u + v - u * v < 2 := by
            rcases (show u = 0 ∨ u = 1 by omega) with rfl | rfl
            · rw [Nat.zero_mul]; omega
            · rw [Nat.one_mul]; omega
          simp only [List.length_cons] at b hl ⊢
          try dsimp only
          by_cases c2 : s.1 = 2
          · rw [if_pos c2]
            refine ⟨by rw [List.length_cons]; exact b, fun t ht => ?_, by rw [List.length_cons]; omega⟩
            rcases List.mem_cons.1 ht with rfl | ht
            · exact hmul.1
            · exact hb'' t ht
          · rw [if_neg c2]
            refine ⟨by rw [List.length_cons]; exact b, fun t ht => ?_, by rw [List.length_cons]; omega⟩
            rcases List.mem_cons.1 ht with rfl | ht
            · exact hmul.2
            · exact hb'' t ht
theorem ev_ok {w : Nat → Int} : ∀ (c : List zStp) (st : List Nat), dp c st.length → zBt st → st.length ≤ 40 → zBt (ev w c st) ∧ (ev w c st).length ≤ 1 := by
  intro c
  induction c with
  | nil => intro st h hb _; exact ⟨hb, h⟩
  | cons s c ih =>
    intro st h hb hl
    obtain ⟨a, b, d⟩ := ev1_ok (w := w) h hb hl
    exact ih _ a b d
def hv (w : Nat → Int) (c : List zStp) : Int := match ev w c [] with
  | [] => 1
  | v :: _ => (v : Int)
theorem hv_r {w : Nat → Int} {c : List zStp} (h : dp c 0) : hv w c = 0 ∨ hv w c = 1 := by
  obtain ⟨a, b⟩ := ev_ok (w := w) c [] h (fun v hv => absurd hv (by simp)) (by simp)
  unfold hv
  cases he : ev w c [] with
  | nil => exact Or.inr rfl
  | cons v st =>
    rw [he] at a
    have := a v (List.mem_cons_self ..)
    dsimp only
    omega
/-! the class's holds and first -/
abbrev zWd (w : Nat → Int) : Prop := ∀ j, j < 7 → 0 ≤ w j ∧ w j ≤ 1000
theorem f3_compares {k : zK} {M : zM} {w : Nat → Int} {s : zStp} (h0 : s.1 = 0) (hs : zSv s) (hw : zWd w) : f_X3_compares k (w s.2.1.toNat) s.2.2.1 s.2.2.2 M = some (zTs w s : Int) := by
  have h1 : 0 ≤ s.2.1 ∧ s.2.1 ≤ 6 ∧ 0 ≤ s.2.2.1 ∧ s.2.2.1 ≤ 2 ∧ 0 ≤ s.2.2.2 ∧ s.2.2.2 ≤ 9999 := by
    rcases hs with h | h | h | h
    · exact h.2
    · omega
    · omega
    · omega
  have h2 := hw s.2.1.toNat (by omega)
  apply zO_get
  unfold f_X3_compares zTs
  refine zO_br ⟨by omega, by omega⟩ (by omega) (fun c0 => zO_br ⟨by omega, by omega⟩ (by omega) (fun c1 => zO_br ⟨by omega, by omega⟩ ⟨by omega, by omega⟩ (fun d => zO_some ?_) (fun d => zO_some ?_)) (fun c1 => zO_br ⟨by omega, by omega⟩ ⟨by omega, by omega⟩ (fun d => zO_some ?_) (fun d => zO_some ?_))) (fun c0 => zO_br ⟨by omega, by omega⟩ ⟨by omega, by omega⟩ (fun d => zO_some ?_) (fun d => zO_some ?_))
  · rw [if_neg (by omega)]; rfl
  · rw [if_pos (by omega)]; rfl
  · rw [if_neg (by omega)]; rfl
  · rw [if_pos (by omega)]; rfl
  · rw [if_neg (by omega)]; rfl
  · rw [if_pos (by omega)]; rfl
theorem f3_holds {i L r f : Nat} {w : Nat} {c : List zStp} {M : zM} (hL : zDr L) (hr : r < 40) (h3 : M (L + 3) r = (f : Int)) (h4 : M (L + 4) r = ((f + c.length : Nat) : Int)) (h7 : f + c.length ≤ 700) (hk : zCk (M (L + 5)) f c) (hd : dp c 0) (hw : zWd (M w)) : f_X3_holds (zKn i) L (r : Int) w M = some (hv (M w) c) := by
  have z := zQL (i := i) hL
  have key : ∀ (c' : List zStp) (x : Nat) (st : List Nat) (F : Nat), x + c'.length = f + c.length → c'.length < F → dp c' st.length → zBt st → st.length ≤ 40 → zCk (M (L + 5)) x c' → zO (zwh (fun t : Int × Int => fb_X3_holds_10 (zKn i) L (r : Int) w M t.1 t.2) F ((rep st : Int), (x : Int))) (fun v => v = (rep (ev (M w) c' st) : Int)) := by
    intro c'
    induction c' with
    | nil =>
      intro x st F hx hF hd hb hl hk
      obtain ⟨F, rfl⟩ : ∃ g, F = g + 1 := ⟨F - 1, by omega⟩
      refine zO_wh1 ?_
      show zO (fb_X3_holds_10 (zKn i) L (r : Int) w M (rep st : Int) (x : Int)) _
      rw [fb_X3_holds_10, z.2.2.2.1, Int.toNat_natCast, h4]
      rw [List.length_nil] at hx
      exact zO_gd (by omega) (zO_brp ⟨by omega, by omega⟩ ⟨by omega, by omega⟩ (by omega) (zO_inr rfl))
    | cons s c' ih =>
      intro x st F hx hF hd hb hl hk
      rw [List.length_cons] at hx hF
      obtain ⟨F, rfl⟩ : ∃ g, F = g + 1 := ⟨F - 1, by omega⟩
      obtain ⟨g1, g2, g3⟩ := ev1_ok (w := M w) hd hb hl
      have go := ih (x + 1) (ev1 (M w) s st) F (by omega) (by omega) g1 g2 g3 hk.2
      have hd' := hd
      obtain ⟨h0, h1, h2, h3'⟩ := hd
      refine zO_wh1 ?_
      show zO (fb_X3_holds_10 (zKn i) L (r : Int) w M (rep st : Int) (x : Int)) _
      rw [fb_X3_holds_10, z.2.2.2.1, z.2.2.2.2.1]
      simp only [Int.toNat_natCast, h4, hk.1]
      refine zO_gd (by omega) (zO_brn ⟨by omega, by omega⟩ ⟨by omega, by omega⟩ (by omega) (zO_gd (by omega) (zO_lt ?_)))
      have hrb := rep_63 hb (by omega)
      -- the next turn
      have nx : ∀ v : Int, v = (rep (ev1 (M w) s st) : Int) → zO (zlt ((x : Int) + 1) (fun x8 => some (Sum.inl (v, x8)))) (zEl (fun s' : Int × Int => zO (zwh (fun t : Int × Int => fb_X3_holds_10 (zKn i) L (r : Int) w M t.1 t.2) F s') (fun v => v = (rep (ev (M w) (s :: c') st) : Int))) (fun v => v = (rep (ev (M w) (s :: c') st) : Int))) := by
        rintro v rfl
        refine zO_lt (zO_inl ?_)
        show zO (zwh (fun t : Int × Int => fb_X3_holds_10 (zKn i) L (r : Int) w M t.1 t.2) F ((rep (ev1 (M w) s st) : Int), (x : Int) + 1)) _
        rw [show (x : Int) + 1 = ((x + 1 : Nat) : Int) by omega]
        exact go
      by_cases c0 : s.1 = 0
      · have hv0 : 0 ≤ s.2.1 ∧ s.2.1 ≤ 6 ∧ 0 ≤ s.2.2.1 ∧ s.2.2.1 ≤ 2 ∧ 0 ≤ s.2.2.2 ∧ s.2.2.2 ≤ 9999 := by
          rcases h0 with h | h | h | h
          · exact h.2
          · omega
          · omega
          · omega
        have he : eStp s = ((s.2.2.2.toNat * 256 + s.2.1.toNat * 16 + s.2.2.1.toNat : Nat) : Int) := by
          unfold eStp
          rw [if_pos c0]
          omega
        obtain ⟨u1, u2, u3⟩ := w_un (v := s.2.2.2.toNat) (w := s.2.1.toNat) (s := s.2.2.1.toNat) (by omega) (by omega) (by omega)
        have hc := f3_compares (k := zKn i) (M := M) c0 h0 hw
        have e1 : ev1 (M w) s st = zTs (M w) s :: st := by unfold ev1; rw [if_pos c0]
        rw [he, u1]
        refine zO_lt (zO_brp ⟨by omega, by omega⟩ (by omega) (by omega) (zO_brp ⟨by omega, by omega⟩ (by omega) (by omega) (zO_brp ⟨by omega, by omega⟩ (by omega) (by omega) ?_)))
        rw [u2, u3]
        refine zO_gd (by omega) ?_
        rw [Int.toNat_natCast, show ((s.2.2.1.toNat : Nat) : Int) = s.2.2.1 by omega, show ((s.2.2.2.toNat : Nat) : Int) = s.2.2.2 by omega]
        refine zO_b1e hc ?_
        have ht := zTs_2 (w := M w) (s := s)
        have hx6 : zbr (zTs (M w) s : Int) 0 ((zTs (M w) s : Int) = 0) (some (0 : Int)) (some 1) = some (zTs (M w) s : Int) := by
          apply zO_get
          exact zO_br ⟨by omega, by omega⟩ (by omega) (fun h => zO_some (by omega)) (fun h => zO_some (by omega))
        refine zO_b1e hx6 (zO_gd ⟨by omega, by omega⟩ (zO_lt (nx _ ?_)))
        rw [wl_shl (by omega), wl_o1 (by omega) ht, e1]
        rfl
      · cases st with
        | nil =>
          rcases h0 with h0 | h0 | h0 | h0
          · exact absurd h0.1 c0
          · exact absurd (h2 h0).1 (by simp)
          · exact absurd (h3' (Or.inl h0)).1 (by simp)
          · exact absurd (h3' (Or.inr h0)).1 (by simp)
        | cons v st =>
          have v2 := hb v (List.mem_cons_self ..)
          have rv : rep (v :: st) = 2 * rep st + v := rfl
          by_cases c1 : s.1 = 1
          · have he : eStp s = 3 := by unfold eStp; rw [if_neg c0, if_pos c1]
            have e1 : ev1 (M w) s (v :: st) = (1 - v) :: st := by unfold ev1; rw [if_neg c0]; dsimp only; rw [if_pos c1]
            have u1 := (w_un (v := 0) (w := 0) (s := 3) (by omega) (by omega) (by omega)).1
            rw [he, show (3 : Int) = ((0 * 256 + 0 * 16 + 3 : Nat) : Int) from rfl, u1]
            refine zO_lt (zO_brn (by omega) (by omega) (by omega) (zO_lt (nx _ ?_)))
            rw [rv, wl_x1 (by omega) v2, e1]
            rfl
          · have c23 : s.1 = 2 ∨ s.1 = 3 := by
              rcases h0 with h0 | h0 | h0 | h0
              · exact absurd h0.1 c0
              · exact absurd h0 c1
              · exact Or.inl h0
              · exact Or.inr h0
            cases st with
            | nil => exact absurd (h3' c23).1 (by simp)
            | cons u st =>
              have u2 := hb u (List.mem_cons_of_mem _ (List.mem_cons_self ..))
              have ru : rep (v :: u :: st) = 4 * rep st + 2 * u + v := by show 2 * (2 * rep st + u) + v = _; omega
              by_cases c2 : s.1 = 2
              · have he : eStp s = 4 := by unfold eStp; rw [if_neg c0, if_neg c1, if_pos c2]
                have e1 : ev1 (M w) s (v :: u :: st) = (u * v) :: st := by
                  unfold ev1
                  rw [if_neg c0]
                  dsimp only
                  rw [if_neg c1]
                  try dsimp only
                  rw [if_pos c2]
                have u1 := (w_un (v := 0) (w := 0) (s := 4) (by omega) (by omega) (by omega)).1
                rw [he, show (4 : Int) = ((0 * 256 + 0 * 16 + 4 : Nat) : Int) from rfl, u1]
                refine zO_lt (zO_brp (by omega) (by omega) (by omega) (zO_brn (by omega) (by omega) (by omega) (zO_lt (nx _ ?_))))
                rw [ru, wl_and2 (by omega) u2 v2, e1]
                rfl
              · have he : eStp s = 5 := by unfold eStp; rw [if_neg c0, if_neg c1, if_neg c2]
                have e1 : ev1 (M w) s (v :: u :: st) = (u + v - u * v) :: st := by
                  unfold ev1
                  rw [if_neg c0]
                  dsimp only
                  rw [if_neg c1]
                  try dsimp only
                  rw [if_neg c2]
                have u1 := (w_un (v := 0) (w := 0) (s := 5) (by omega) (by omega) (by omega)).1
                rw [he, show (5 : Int) = ((0 * 256 + 0 * 16 + 5 : Nat) : Int) from rfl, u1]
                refine zO_lt (zO_brp (by omega) (by omega) (by omega) (zO_brp (by omega) (by omega) (by omega) (zO_brn (by omega) (by omega) (by omega) (zO_lt (nx _ ?_)))))
                rw [ru, wl_or2 (by omega) u2 v2, e1]
                rfl
  apply zO_get
  unfold f_X3_holds
  rw [z.2.2.1, Int.toNat_natCast, h3]
  refine zO_gd (by omega) (zO_lt (zO_b1q (key c f [] zfu rfl (by unfold zfu; omega) hd (fun v hv => absurd hv (by simp)) (by simp) hk) ?_))
  rintro y rfl
  have hr := hv_r (w := M w) hd
  obtain ⟨a, b⟩ := ev_ok (w := M w) c [] hd (fun v hv => absurd hv (by simp)) (by simp)
  have hx : zo_land (rep (ev (M w) c []) : Int) 1 = hv (M w) c := by
    unfold hv
    cases he : ev (M w) c [] with
    | nil => exact wl_a1 (q := 0) (v := 1) (by omega) (by omega)
    | cons v st =>
      rw [he] at a b
      have v2 := a v (List.mem_cons_self ..)
      have hrb := rep_63 a (by omega)
      rw [show rep (v :: st) = 2 * rep st + v from rfl] at hrb ⊢
      exact wl_a1 (by omega) v2
  rw [hx]
  refine zO_bl ⟨by omega, by omega⟩ (by omega) (fun h => zO_some (by omega)) (fun h => zO_some (by omega))
/-! the first that holds -/
def sr (p : Nat → Prop) (dec : ∀ j, Decidable (p j)) (val : Nat → Int) : Nat → Int → Int
  | 0, o => o
  | m + 1, o => sr p dec val m (@ite _ (p m) (dec m) (val m) o)
theorem sr_none {p : Nat → Prop} {dec : ∀ j, Decidable (p j)} {val : Nat → Int} : ∀ m o, (∀ l, l < m → ¬ p l) → sr p dec val m o = o := by
  intro m
  induction m with
  | zero => intro o _; rfl
  | succ m ih =>
    intro o h
    show sr p dec val m (@ite _ (p m) (dec m) (val m) o) = o
    rw [if_neg (h m (by omega))]
    exact ih o (fun l hl => h l (by omega))
theorem sr_at {p : Nat → Prop} {dec : ∀ j, Decidable (p j)} {val : Nat → Int} {j : Nat} (hp : p j) (hl : ∀ l, l < j → ¬ p l) : ∀ m o, j < m → sr p dec val m o = val j := by
  intro m
  induction m with
  | zero => intro o h; omega
  | succ m ih =>
    intro o h
    show sr p dec val m (@ite _ (p m) (dec m) (val m) o) = val j
    by_cases e : j = m
    · subst e
      rw [if_pos hp]
      exact sr_none j _ hl
    · exact ih _ (by omega)
def zFi (kind : Int) (w : Nat → Int) : Int → List zRu → Int
  | o, [] => o
  | o, r :: R => zFi kind w (if r.1 = kind ∧ hv w r.2.2.2.2 = 1 then r.2.1 else o) R
theorem f3_firstR {i L w : Nat} {R : List zRu} {kind o : Int} {M M' : zM} {c1 : Nat} (hL : zDr L) (hR : R.length ≤ 40) (hc : c1 ≤ 700) (hA : M L 1 = (aN R : Int)) (hk : zAsk L c1 M R) (hd : ∀ r, r ∈ R → dp r.2.2.2.2 0) (hkind : 1 ≤ kind ∧ kind ≤ 4) (e0 : M' L = M L) (e1 : ∀ q, L < q → q ≤ L + 11 → M' q = M q) (hw : zWd (M' w)) : f_X3_first (zKn i) L kind w o M' = some (zFi kind (M' w) o R) := by
  have z := zQL (i := i) hL
  have hN := aN_le R
  have row : ∀ (R' : List zRu) (r : zRu), aN (r :: R') ≤ 40 → dp r.2.2.2.2 0 → zAsk L c1 M (r :: R') → 1 ≤ r.1 ∧ r.1 ≤ 4 → M' (L + 1) (aN R') = r.1 ∧ M' (L + 2) (aN R') = r.2.1 ∧ f_X3_holds (zKn i) L (aN R' : Int) w M' = some (hv (M' w) r.2.2.2.2) := by
    intro R' r h40 hdr hkr c
    have hs : aN (r :: R') = aN R' + 1 := if_pos c
    obtain ⟨g1, g2, f, g3, g4, g5, g6⟩ := hkr.1 c
    refine ⟨by rw [e1 (L + 1) (by omega) (by omega)]; exact g1, by rw [e1 (L + 2) (by omega) (by omega)]; exact g2, f3_holds hL (by omega) (f := f) ?_ ?_ (by omega) ?_ hdr hw⟩
    · rw [e1 (L + 3) (by omega) (by omega)]; exact g3
    · rw [e1 (L + 4) (by omega) (by omega)]; exact g4
    · rw [e1 (L + 5) (by omega) (by omega)]; exact g6
  have dec : ∀ j, Decidable (M' (L + 1) j = kind ∧ f_X3_holds (zKn i) L (j : Int) w M' = some 1) := fun j => Classical.propDecidable _
  -- the search is the LAW's
  have hsr : ∀ (R' : List zRu), R'.length ≤ 40 → (∀ r, r ∈ R' → dp r.2.2.2.2 0) → zAsk L c1 M R' → ∀ o, sr (fun j => M' (L + 1) j = kind ∧ f_X3_holds (zKn i) L (j : Int) w M' = some 1) dec (M' (L + 2)) (aN R') o = zFi kind (M' w) o R' := by
    intro R'
    induction R' with
    | nil => intro _ _ _ o; rfl
    | cons r R' ih =>
      intro hl hdr hkr o
      rw [List.length_cons] at hl
      have hN' := aN_le R'
      show _ = zFi kind (M' w) (if r.1 = kind ∧ hv (M' w) r.2.2.2.2 = 1 then r.2.1 else o) R'
      rw [← ih (by omega) (fun r' h => hdr r' (List.mem_cons_of_mem _ h)) hkr.2]
      by_cases c : 1 ≤ r.1 ∧ r.1 ≤ 4
      · have hs : aN (r :: R') = aN R' + 1 := if_pos c
        obtain ⟨g1, g2, g3⟩ := row R' r (by omega) (hdr r (List.mem_cons_self ..)) hkr c
        rw [hs]
        show sr _ dec _ (aN R') (@ite _ _ (dec (aN R')) _ o) = _
        congr 1
        by_cases d : r.1 = kind ∧ hv (M' w) r.2.2.2.2 = 1
        · rw [if_pos d, if_pos ⟨by rw [g1]; exact d.1, by rw [g3, d.2]⟩, g2]
        · rw [if_neg d, if_neg (fun h => d ⟨by rw [← g1]; exact h.1, by have := h.2; rw [g3] at this; exact Option.some.inj this⟩)]
      · have hs : aN (r :: R') = aN R' := if_neg c
        rw [hs, if_neg (fun h => c (by omega))]
  -- each place in turn
  have places : ∀ (R' : List zRu), R'.length ≤ 40 → (∀ r, r ∈ R' → dp r.2.2.2.2 0) → zAsk L c1 M R' → ∀ j, j < aN R' → zr (M' (L + 1) j) ∧ ∃ v, f_X3_holds (zKn i) L (j : Int) w M' = some v ∧ (v = 0 ∨ v = 1) := by
    intro R'
    induction R' with
    | nil => intro _ _ _ j hj; exact absurd hj (Nat.not_lt_zero j)
    | cons r R' ih =>
      intro hl hdr hkr j hj
      rw [List.length_cons] at hl
      have hN' := aN_le R'
      by_cases c : 1 ≤ r.1 ∧ r.1 ≤ 4
      · have hs : aN (r :: R') = aN R' + 1 := if_pos c
        by_cases e : j = aN R'
        · obtain ⟨g1, g2, g3⟩ := row R' r (by omega) (hdr r (List.mem_cons_self ..)) hkr c
          rw [e, g1]
          exact ⟨⟨by omega, by omega⟩, _, g3, hv_r (hdr r (List.mem_cons_self ..))⟩
        · exact ih (by omega) (fun r' h => hdr r' (List.mem_cons_of_mem _ h)) hkr.2 j (by omega)
      · have hs : aN (r :: R') = aN R' := if_neg c
        exact ih (by omega) (fun r' h => hdr r' (List.mem_cons_of_mem _ h)) hkr.2 j (by omega)
  have pl := places R hR hd hk
  have hA' : M' L 1 = (aN R : Int) := by rw [e0]; exact hA
  rw [← hsr R hR hd hk]
  apply zO_get
  unfold f_X3_first
  rw [z.2.1]
  have hfind := zO_find (F := fb_X3_first_3 (zKn i) L kind w o M') (aN R) (fun j => M' (L + 1) j = kind ∧ f_X3_holds (zKn i) L (j : Int) w M' = some 1) (fun j => (Sum.inl (j : Int) : Int ⊕ Int)) (t := Sum.inr o) (fun j hj hp => by
    obtain ⟨h1, v, h2, h3⟩ := pl j hj
    apply zO_get
    rw [fb_X3_first_3, hA', z.1, Int.toNat_natCast]
    refine zO_brn ⟨by omega, by omega⟩ ⟨by omega, by omega⟩ (by omega) (zO_gd (by omega) (zO_br h1 ⟨by omega, by omega⟩ (fun _ => zO_lt (zO_some (by rw [show ((j + 1 : Nat) : Int) = (j : Int) + 1 by omega]))) (fun hk' => zO_b1e h2 ?_)))
    have v0 : v = 0 := by
      rcases h3 with h3 | h3
      · exact h3
      · exact absurd ⟨Decidable.byContradiction hk', by rw [h2, h3]⟩ hp
    exact zO_brp (by omega) (by omega) v0 (zO_lt (zO_some (by rw [show ((j + 1 : Nat) : Int) = (j : Int) + 1 by omega])))) (fun j hj hp => by
    obtain ⟨h1, v, h2, h3⟩ := pl j hj
    apply zO_get
    rw [fb_X3_first_3, hA', z.1, Int.toNat_natCast]
    have v1 : v = 1 := Option.some.inj (h2.symm.trans hp.2)
    exact zO_brn ⟨by omega, by omega⟩ ⟨by omega, by omega⟩ (by omega) (zO_gd (by omega) (zO_brn h1 ⟨by omega, by omega⟩ (fun h => h hp.1) (zO_b1e h2 (zO_brn (by omega) (by omega) (by omega) (zO_some rfl)))))) (by
    apply zO_get
    rw [fb_X3_first_3, hA']
    exact zO_brp ⟨by omega, by omega⟩ ⟨by omega, by omega⟩ (by omega) (zO_some rfl)) (by omega) 0 (by omega)
  refine zO_sp1 (zO_mono hfind ?_)
  rintro u (⟨j, _, h2, h3, h4, rfl⟩ | ⟨h2, rfl⟩)
  · refine show zO _ _ from zO_gd (by omega) (zO_some ?_)
    rw [Int.toNat_natCast]
    exact (sr_at (p := fun j => M' (L + 1) j = kind ∧ f_X3_holds (zKn i) L (j : Int) w M' = some 1) h3 (fun l hl => h4 l (by omega) hl) _ o h2).symm
  · exact show zO _ _ from zO_some (sr_none (p := fun j => M' (L + 1) j = kind ∧ f_X3_holds (zKn i) L (j : Int) w M' = some 1) _ o (fun l hl => h2 l (by omega) hl)).symm

/-! what hangs together -/
def zRe (S : Nat → Bool) (a : Nat) : Nat → Nat → Prop
  | 0, c => c = a
  | n + 1, c => zRe S a n c ∨ (S c = true ∧ ∃ d, d < 4 ∧ zbs c d ≠ -1 ∧ zRe S a n (zbs c d).toNat)
def zRch (S : Nat → Bool) (a c : Nat) : Prop := ∃ n, zRe S a n c
noncomputable def zRb (S : Nat → Bool) (a c : Nat) : Bool := @decide (zRch S a c) (Classical.propDecidable _)
theorem zRb_t {S : Nat → Bool} {a c : Nat} : zRb S a c = true ↔ zRch S a c := @decide_eq_true_iff _ (Classical.propDecidable _)
theorem zRe_congr {S T : Nat → Bool} {a : Nat} (h : ∀ c, c < 256 → S c = T c) : ∀ n c, c < 256 → (zRe S a n c ↔ zRe T a n c) := by
  intro n
  induction n with
  | zero => intro c _; exact Iff.rfl
  | succ n ih =>
    intro c hc
    unfold zRe
    rw [ih c hc, h c hc]
    constructor
    · rintro (h1 | ⟨h1, d, hd, hb, h2⟩)
      · exact Or.inl h1
      · have := zbs_r (c := c) (d := d) hc
        exact Or.inr ⟨h1, d, hd, hb, (ih _ (by omega)).1 h2⟩
    · rintro (h1 | ⟨h1, d, hd, hb, h2⟩)
      · exact Or.inl h1
      · have := zbs_r (c := c) (d := d) hc
        exact Or.inr ⟨h1, d, hd, hb, (ih _ (by omega)).2 h2⟩
theorem zRb_congr {S T : Nat → Bool} {a c : Nat} (h : ∀ c, c < 256 → S c = T c) (hc : c < 256) : zRb S a c = zRb T a c := by
  have e : zRch S a c ↔ zRch T a c := ⟨fun ⟨n, hn⟩ => ⟨n, (zRe_congr h n c hc).1 hn⟩, fun ⟨n, hn⟩ => ⟨n, (zRe_congr h n c hc).2 hn⟩⟩
  have h1 := zRb_t (S := S) (a := a) (c := c)
  have h2 := zRb_t (S := T) (a := a) (c := c)
  by_cases hh : zRch S a c
  · rw [h1.2 hh, h2.2 (e.1 hh)]
  · have a1 : zRb S a c = false := by
      cases hx : zRb S a c
      · rfl
      · exact absurd (h1.1 hx) hh
    have a2 : zRb T a c = false := by
      cases hx : zRb T a c
      · rfl
      · exact absurd (e.2 (h2.1 hx)) hh
    rw [a1, a2]
/-- the ISLAND's size -/
noncomputable def sIs (S : Nat → Bool) (a : Nat) : Int := zsum 256 (fun c => if zRb S a c = true then 1 else 0)
theorem sIs_congr {S T : Nat → Bool} {a : Nat} (h : ∀ c, c < 256 → S c = T c) : sIs S a = sIs T a := zsum_congr (fun c hc => by rw [zRb_congr h hc])
/-- so far: v who is come to, qu who waits, n how many, i which is next -/
def zL (S : Nat → Bool) (a : Nat) (v : Nat → Bool) (qu : Nat → Int) (n i : Nat) : Prop :=
  (n : Int) = zsum 256 (fun c => if v c = true then 1 else 0) ∧ i ≤ n ∧
  (∀ q, q < n → 0 ≤ qu q ∧ qu q < 256 ∧ v (qu q).toNat = true ∧ zRch S a (qu q).toNat) ∧
  (∀ c : Nat, c < 256 → v c = true → ∃ q, q < n ∧ qu q = (c : Int)) ∧
  (∀ p d, p < i → d < 4 → zbs (qu p).toNat d = -1 ∨ S (zbs (qu p).toNat d).toNat = false ∨ v (zbs (qu p).toNat d).toNat = true) ∧
  v a = true
theorem zL_0 {S v : Nat → Bool} {a : Nat} {qu : Nat → Int} (ha : a < 256) (h0 : qu 0 = (a : Int)) (hv : ∀ c, c < 256 → (v c = true ↔ c = a)) : zL S a v qu 1 0 := by
  refine ⟨?_, by omega, ?_, ?_, fun p d hp => by omega, (hv a ha).2 rfl⟩
  · rw [zsum_congr (g := fun c => if c = a then (1 : Int) else 0) (fun c hc => by
      by_cases e : c = a
      · rw [if_pos ((hv c hc).2 e), if_pos e]
      · rw [if_neg (fun h => e ((hv c hc).1 h)), if_neg e]), zsum_one ha]
    rfl
  · intro q hq
    have : q = 0 := by omega
    subst this
    rw [h0, Int.toNat_natCast]
    exact ⟨by omega, by omega, (hv a ha).2 rfl, 0, rfl⟩
  · intro c hc h
    exact ⟨0, by omega, by rw [h0, (hv c hc).1 h]⟩
theorem zL_add {S v v' : Nat → Bool} {a : Nat} {qu : Nat → Int} {n i d : Nat} (h : zL S a v qu n i) (hi : i < n) (hd : d < 4) (hb : zbs (qu i).toNat d ≠ -1) (hs : S (zbs (qu i).toNat d).toNat = true) (hv : v (zbs (qu i).toNat d).toNat = false) (h1 : v' (zbs (qu i).toNat d).toNat = true) (h2 : ∀ x, x ≠ (zbs (qu i).toNat d).toNat → v' x = v x) : zL S a v' (zup qu n (zbs (qu i).toNat d)) (n + 1) i ∧ n < 256 := by
  obtain ⟨a1, a2, a3, a4, a5, a6⟩ := h
  obtain ⟨u0, u1, u2, ⟨m, u3⟩⟩ := a3 i hi
  have hbr := zbs_or (c := (qu i).toNat) (d := d) (by omega) hd
  obtain ⟨e, he, hsy⟩ := zbs_sym (c := (qu i).toNat) (by omega) hd hb
  generalize zbs (qu i).toNat d = b at *
  obtain ⟨c, rfl⟩ : ∃ c : Nat, b = c := ⟨b.toNat, by omega⟩
  rw [Int.toNat_natCast] at *
  have hcc : c < 256 := by omega
  have hrc : zRch S a c := ⟨m + 1, Or.inr ⟨hs, e, he, by rw [hsy]; omega, by rw [hsy, Int.toNat_natCast]; exact u3⟩⟩
  have hsum : zsum 256 (fun c => if v' c = true then (1 : Int) else 0) = n + 1 := by
    rw [zsum_upd (c := c) (f := fun x => if v x = true then (1 : Int) else 0) hcc (fun x _ hx => by rw [h2 x hx]), ← a1, if_neg (by rw [hv]; decide), if_pos h1]
    omega
  have hn : n < 256 := by
    have : zsum 256 (fun c => if v' c = true then (1 : Int) else 0) ≤ ((256 : Nat) : Int) * 1 := zsum_le (fun x _ => by show (if _ then (1 : Int) else 0) ≤ 1; split <;> omega)
    omega
  have vm : ∀ x, v x = true → v' x = true := by
    intro x hx
    by_cases e : x = c
    · subst e; exact h1
    · rw [h2 x e]; exact hx
  have qold : ∀ q, q < n → zup qu n (c : Int) q = qu q := fun q hq => zup_ne (by omega)
  refine ⟨⟨by rw [hsum]; omega, by omega, ?_, ?_, ?_, vm a a6⟩, hn⟩
  · intro q hq
    rcases Nat.lt_or_ge q n with h' | h'
    · rw [qold q h']
      have := a3 q h'
      exact ⟨this.1, this.2.1, vm _ this.2.2.1, this.2.2.2⟩
    · have : q = n := by omega
      subst this
      rw [zup_eq, Int.toNat_natCast]
      exact ⟨by omega, by omega, h1, hrc⟩
  · intro x hx hvx
    by_cases e : x = c
    · subst e
      exact ⟨n, by omega, zup_eq⟩
    · rw [h2 x e] at hvx
      obtain ⟨q, hq, e'⟩ := a4 x hx hvx
      exact ⟨q, by omega, by rw [qold q hq]; exact e'⟩
  · intro p d' hp hd'
    rw [qold p (by omega)]
    rcases a5 p d' hp hd' with h' | h' | h'
    · exact Or.inl h'
    · exact Or.inr (Or.inl h')
    · exact Or.inr (Or.inr (vm _ h'))
theorem zL_nxt {S v : Nat → Bool} {a : Nat} {qu : Nat → Int} {n i : Nat} (h : zL S a v qu n i) (hi : i < n) (hd : ∀ d, d < 4 → zbs (qu i).toNat d = -1 ∨ S (zbs (qu i).toNat d).toNat = false ∨ v (zbs (qu i).toNat d).toNat = true) : zL S a v qu n (i + 1) := by
  obtain ⟨a1, a2, a3, a4, a5, a6⟩ := h
  refine ⟨a1, by omega, a3, a4, ?_, a6⟩
  intro p d hp hd'
  rcases Nat.lt_or_ge p i with h' | h'
  · exact a5 p d h' hd'
  · have : p = i := by omega
    subst this
    exact hd d hd'
theorem zL_end {S v : Nat → Bool} {a : Nat} {qu : Nat → Int} {n : Nat} (h : zL S a v qu n n) : (n : Int) = sIs S a ∧ ∀ c, c < 256 → v c = zRb S a c := by
  obtain ⟨a1, a2, a3, a4, a5, a6⟩ := h
  have key : ∀ m c, c < 256 → zRe S a m c → v c = true := by
    intro m
    induction m with
    | zero => intro c _ hr; have e : c = a := hr; rw [e]; exact a6
    | succ m ih =>
      intro c hc hr
      rcases hr with hr | ⟨hs, d, hd, hb, hr⟩
      · exact ih c hc hr
      · have hbr := zbs_or (c := c) (d := d) hc hd
        have hvb := ih _ (by omega) hr
        obtain ⟨q, hq, e⟩ := a4 _ (by omega) hvb
        obtain ⟨d', hd', hsy⟩ := zbs_sym hc hd hb
        have := a5 q d' hq hd'
        rw [e, Int.toNat_natCast, hsy, Int.toNat_natCast, hs] at this
        rcases this with h | h | h
        · omega
        · cases h
        · exact h
  have hv : ∀ c, c < 256 → v c = zRb S a c := by
    intro c hc
    by_cases hh : zRch S a c
    · obtain ⟨m, hm⟩ := hh
      rw [key m c hc hm, zRb_t.2 ⟨m, hm⟩]
    · have h1 : zRb S a c = false := by
        cases hx : zRb S a c
        · rfl
        · exact absurd (zRb_t.1 hx) hh
      rw [h1]
      cases hx : v c
      · rfl
      · obtain ⟨q, hq, e⟩ := a4 c hc hx
        have := (a3 q hq).2.2.2
        rw [e, Int.toNat_natCast] at this
        exact absurd this hh
  refine ⟨?_, hv⟩
  rw [a1]
  unfold sIs
  exact zsum_congr (fun c hc => by rw [hv c hc])
theorem zL_n {S v : Nat → Bool} {a : Nat} {qu : Nat → Int} {n i : Nat} (h : zL S a v qu n i) : n ≤ 256 := by
  have : zsum 256 (fun c => if v c = true then (1 : Int) else 0) ≤ ((256 : Nat) : Int) * 1 := zsum_le (fun x _ => by show (if _ then (1 : Int) else 0) ≤ 1; split <;> omega)
  have := h.1
  omega
/-! the class's flood -/
def zOp (r : Nat → Int) (c : Nat) : Bool := r c != 0
/-- come to: open at first, closed now -/
def zGo (r0 r : Nat → Int) (c : Nat) : Bool := r0 c != 0 && r c == 0
def z01 (r : Nat → Int) : Prop := ∀ c, c < 256 → r c = 0 ∨ r c = 1
theorem zOp_t {r : Nat → Int} {c : Nat} : zOp r c = true ↔ r c ≠ 0 := by unfold zOp; exact bne_iff_ne
theorem zOp_f {r : Nat → Int} {c : Nat} : zOp r c = false ↔ r c = 0 := by unfold zOp; simp
theorem zGo_t {r0 r : Nat → Int} {c : Nat} : zGo r0 r c = true ↔ r0 c ≠ 0 ∧ r c = 0 := by unfold zGo; simp
theorem zGo_f {r0 r : Nat → Int} {c : Nat} : zGo r0 r c = false ↔ r0 c = 0 ∨ r c ≠ 0 := by
  have := zGo_t (r0 := r0) (r := r) (c := c)
  cases hx : zGo r0 r c
  · simp
    by_cases h : r0 c = 0
    · exact Or.inl h
    · refine Or.inr (fun h' => ?_)
      rw [this.2 ⟨h, h'⟩] at hx
      cases hx
  · have := this.1 hx
    simp
    omega
theorem g1_in {k : zK} {a i n : Nat} {r0 : Nat → Int} {M : zM} (hi : i < n) (h1 : z01 (M 44)) (h0 : ∀ c, r0 c = 0 → M 44 c = 0) (hL : zL (zOp r0) a (zGo r0 (M 44)) (M 45) n i) : zO (zw3 (gb_X1_spread_44 k i) zfu n 0 M) (fun r => ∃ n' : Nat, r.1 = (n' : Int) ∧ zFr [44, 45] M r.2 ∧ z01 (r.2 44) ∧ (∀ c, r0 c = 0 → r.2 44 c = 0) ∧ zL (zOp r0) a (zGo r0 (r.2 44)) (r.2 45) n' (i + 1)) := by
  unfold zw3
  refine zO_for (fun s => s.2.1) 4 (fun j t => ∃ n' : Nat, t.1 = (n' : Int) ∧ i < n' ∧ zFr [44, 45] M t.2.2 ∧ z01 (t.2.2 44) ∧ (∀ c, r0 c = 0 → t.2.2 44 c = 0) ∧ zL (zOp r0) a (zGo r0 (t.2.2 44)) (t.2.2 45) n' i ∧ ∀ d, d < j → zbs (t.2.2 45 i).toNat d = -1 ∨ zOp r0 (zbs (t.2.2 45 i).toNat d).toNat = false ∨ zGo r0 (t.2.2 44) (zbs (t.2.2 45 i).toNat d).toNat = true) ?_ ?_ (by omega) 0 (by omega) rfl (by dsimp only; exact ⟨n, rfl, hi, zFr_refl, h1, h0, hL, fun d hd => by omega⟩)
  · rintro j ⟨y2, y4, M'⟩ hj hc' ⟨n', hn, hi', hfr, hz, h0', hL', hd⟩
    simp only at hc' hn hi' hfr hz h0' hL' hd
    subst hc' hn
    have hn256 := zL_n hL'
    have hq := hL'.2.2.1 i hi'
    have hb := zbs_or (c := (M' 45 i).toNat) (d := j) (by omega) hj
    have hbs := f10_besN (k := k) (c := M' 45 i) (d := j) (M := M') ⟨hq.1, hq.2.1⟩ hj
    have vis : (zbs (M' 45 i).toNat j = -1 ∨ zOp r0 (zbs (M' 45 i).toNat j).toNat = false ∨ zGo r0 (M' 44) (zbs (M' 45 i).toNat j).toNat = true) → ∀ d, d < j + 1 → zbs (M' 45 i).toNat d = -1 ∨ zOp r0 (zbs (M' 45 i).toNat d).toNat = false ∨ zGo r0 (M' 44) (zbs (M' 45 i).toNat d).toNat = true := by
      intro h2 d hd'
      rcases Nat.lt_or_ge d j with h | h
      · exact hd d h
      · have : d = j := by omega
        subst this
        exact h2
    dsimp only
    rw [gb_X1_spread_44]
    rcases hb with hb | ⟨b0, b1, b2⟩
    · rw [hb] at hbs
      repeat' (first | (with_reducible refine zO_b1e hbs ?_) | (with_reducible refine zO_lt ?_) | (with_reducible refine zO_gd ?hc ?_; case hc => (first | omega | (simp (disch := omega) only [zst_ne, zst_s, zup_eq, zup_ne, Int.toNat_natCast, not_true_eq_false, not_false_eq_true, true_or, or_true, true_and, and_true]; first | done | omega))) | (with_reducible refine zO_brp ?ha ?hb ?hc ?_; (case ha => (first | omega | (simp (disch := omega) only [zst_ne, zst_s, zup_eq, zup_ne, Int.toNat_natCast, not_true_eq_false, not_false_eq_true, true_or, or_true, true_and, and_true]; first | done | omega))); (case hb => (first | omega | (simp (disch := omega) only [zst_ne, zst_s, zup_eq, zup_ne, Int.toNat_natCast, not_true_eq_false, not_false_eq_true, true_or, or_true, true_and, and_true]; first | done | omega))); (case hc => (first | omega | (simp (disch := omega) only [zst_ne, zst_s, zup_eq, zup_ne, Int.toNat_natCast, not_true_eq_false, not_false_eq_true, true_or, or_true, true_and, and_true]; first | done | omega)))) | (with_reducible refine zO_brn ?ha ?hb ?hc ?_; (case ha => (first | omega | (simp (disch := omega) only [zst_ne, zst_s, zup_eq, zup_ne, Int.toNat_natCast, not_true_eq_false, not_false_eq_true, true_or, or_true, true_and, and_true]; first | done | omega))); (case hb => (first | omega | (simp (disch := omega) only [zst_ne, zst_s, zup_eq, zup_ne, Int.toNat_natCast, not_true_eq_false, not_false_eq_true, true_or, or_true, true_and, and_true]; first | done | omega))); (case hc => (first | omega | (simp (disch := omega) only [zst_ne, zst_s, zup_eq, zup_ne, Int.toNat_natCast, not_true_eq_false, not_false_eq_true, true_or, or_true, true_and, and_true]; first | done | omega)))) | simp (disch := omega) only [zst_ne, zst_s, zup_eq, zup_ne, Int.toNat_natCast, not_true_eq_false, not_false_eq_true, true_or, or_true, true_and, and_true] | (with_reducible refine zO_br ?ha ?hb (fun _ => ?_) (fun _ => ?_); (case ha => (first | omega | (simp (disch := omega) only [zst_ne, zst_s, zup_eq, zup_ne, Int.toNat_natCast, not_true_eq_false, not_false_eq_true, true_or, or_true, true_and, and_true]; first | done | omega))); (case hb => (first | omega | (simp (disch := omega) only [zst_ne, zst_s, zup_eq, zup_ne, Int.toNat_natCast, not_true_eq_false, not_false_eq_true, true_or, or_true, true_and, and_true]; first | done | omega)))) | (with_reducible refine zO_ifp ?hc ?_; case hc => (first | omega | (simp (disch := omega) only [zst_ne, zst_s, zup_eq, zup_ne, Int.toNat_natCast, not_true_eq_false, not_false_eq_true, true_or, or_true, true_and, and_true]; first | done | omega))) | (with_reducible refine zO_ifn ?hc ?_; case hc => (first | omega | (simp (disch := omega) only [zst_ne, zst_s, zup_eq, zup_ne, Int.toNat_natCast, not_true_eq_false, not_false_eq_true, true_or, or_true, true_and, and_true]; first | done | omega))) | (with_reducible refine zO_somek ?_) | (with_reducible refine zO_inlk ?_) | (with_reducible refine zO_inrk ?_) | (with_reducible refine zO_sp0 ?_) | (with_reducible refine zO_sp1 ?_) | (with_reducible refine zO_sp2 ?_) | (with_reducible refine zO_sp3 ?_) | (with_reducible refine zO_sp4 ?_) | (with_reducible refine zO_b2 ?_) | (with_reducible refine zO_b3 ?_) | (with_reducible refine zO_b4 ?_) | (with_reducible refine zO_bd ?_) | (with_reducible refine zO_b0 ?_) | (with_reducible refine zO_b1 ?_))
      exact zO_inl ⟨by dsimp only; omega, n', rfl, hi', hfr, hz, h0', hL', vis (Or.inl hb)⟩
    · have hz1 := hz (zbs (M' 45 i).toNat j).toNat (by omega)
      by_cases hop : M' 44 (zbs (M' 45 i).toNat j).toNat = 0
      · repeat' (first | (with_reducible refine zO_b1e hbs ?_) | (with_reducible refine zO_lt ?_) | (with_reducible refine zO_gd ?hc ?_; case hc => (first | omega | (simp (disch := omega) only [zst_ne, zst_s, zup_eq, zup_ne, Int.toNat_natCast, not_true_eq_false, not_false_eq_true, true_or, or_true, true_and, and_true]; first | done | omega))) | (with_reducible refine zO_brp ?ha ?hb ?hc ?_; (case ha => (first | omega | (simp (disch := omega) only [zst_ne, zst_s, zup_eq, zup_ne, Int.toNat_natCast, not_true_eq_false, not_false_eq_true, true_or, or_true, true_and, and_true]; first | done | omega))); (case hb => (first | omega | (simp (disch := omega) only [zst_ne, zst_s, zup_eq, zup_ne, Int.toNat_natCast, not_true_eq_false, not_false_eq_true, true_or, or_true, true_and, and_true]; first | done | omega))); (case hc => (first | omega | (simp (disch := omega) only [zst_ne, zst_s, zup_eq, zup_ne, Int.toNat_natCast, not_true_eq_false, not_false_eq_true, true_or, or_true, true_and, and_true]; first | done | omega)))) | (with_reducible refine zO_brn ?ha ?hb ?hc ?_; (case ha => (first | omega | (simp (disch := omega) only [zst_ne, zst_s, zup_eq, zup_ne, Int.toNat_natCast, not_true_eq_false, not_false_eq_true, true_or, or_true, true_and, and_true]; first | done | omega))); (case hb => (first | omega | (simp (disch := omega) only [zst_ne, zst_s, zup_eq, zup_ne, Int.toNat_natCast, not_true_eq_false, not_false_eq_true, true_or, or_true, true_and, and_true]; first | done | omega))); (case hc => (first | omega | (simp (disch := omega) only [zst_ne, zst_s, zup_eq, zup_ne, Int.toNat_natCast, not_true_eq_false, not_false_eq_true, true_or, or_true, true_and, and_true]; first | done | omega)))) | simp (disch := omega) only [zst_ne, zst_s, zup_eq, zup_ne, Int.toNat_natCast, not_true_eq_false, not_false_eq_true, true_or, or_true, true_and, and_true] | (with_reducible refine zO_br ?ha ?hb (fun _ => ?_) (fun _ => ?_); (case ha => (first | omega | (simp (disch := omega) only [zst_ne, zst_s, zup_eq, zup_ne, Int.toNat_natCast, not_true_eq_false, not_false_eq_true, true_or, or_true, true_and, and_true]; first | done | omega))); (case hb => (first | omega | (simp (disch := omega) only [zst_ne, zst_s, zup_eq, zup_ne, Int.toNat_natCast, not_true_eq_false, not_false_eq_true, true_or, or_true, true_and, and_true]; first | done | omega)))) | (with_reducible refine zO_ifp ?hc ?_; case hc => (first | omega | (simp (disch := omega) only [zst_ne, zst_s, zup_eq, zup_ne, Int.toNat_natCast, not_true_eq_false, not_false_eq_true, true_or, or_true, true_and, and_true]; first | done | omega))) | (with_reducible refine zO_ifn ?hc ?_; case hc => (first | omega | (simp (disch := omega) only [zst_ne, zst_s, zup_eq, zup_ne, Int.toNat_natCast, not_true_eq_false, not_false_eq_true, true_or, or_true, true_and, and_true]; first | done | omega))) | (with_reducible refine zO_somek ?_) | (with_reducible refine zO_inlk ?_) | (with_reducible refine zO_inrk ?_) | (with_reducible refine zO_sp0 ?_) | (with_reducible refine zO_sp1 ?_) | (with_reducible refine zO_sp2 ?_) | (with_reducible refine zO_sp3 ?_) | (with_reducible refine zO_sp4 ?_) | (with_reducible refine zO_b2 ?_) | (with_reducible refine zO_b3 ?_) | (with_reducible refine zO_b4 ?_) | (with_reducible refine zO_bd ?_) | (with_reducible refine zO_b0 ?_) | (with_reducible refine zO_b1 ?_))
        refine zO_inl ⟨by dsimp only; omega, n', rfl, hi', hfr, hz, h0', hL', vis ?_⟩
        by_cases h5 : r0 (zbs (M' 45 i).toNat j).toNat = 0
        · exact Or.inr (Or.inl (zOp_f.2 h5))
        · exact Or.inr (Or.inr (zGo_t.2 ⟨h5, hop⟩))
      · have hr0 : r0 (zbs (M' 45 i).toNat j).toNat ≠ 0 := fun h => hop (h0' _ h)
        obtain ⟨hA, hA1⟩ := zL_add (v' := zGo r0 (zup (M' 44) (zbs (M' 45 i).toNat j).toNat 0)) hL' hi' hj (by omega) (zOp_t.2 hr0) (zGo_f.2 (Or.inr hop)) (zGo_t.2 ⟨hr0, zup_eq⟩) (fun x hx => by unfold zGo; rw [zup_ne hx])
        repeat' (first | (with_reducible refine zO_b1e hbs ?_) | (with_reducible refine zO_lt ?_) | (with_reducible refine zO_gd ?hc ?_; case hc => (first | omega | (simp (disch := omega) only [zst_ne, zst_s, zup_eq, zup_ne, Int.toNat_natCast, not_true_eq_false, not_false_eq_true, true_or, or_true, true_and, and_true]; first | done | omega))) | (with_reducible refine zO_brp ?ha ?hb ?hc ?_; (case ha => (first | omega | (simp (disch := omega) only [zst_ne, zst_s, zup_eq, zup_ne, Int.toNat_natCast, not_true_eq_false, not_false_eq_true, true_or, or_true, true_and, and_true]; first | done | omega))); (case hb => (first | omega | (simp (disch := omega) only [zst_ne, zst_s, zup_eq, zup_ne, Int.toNat_natCast, not_true_eq_false, not_false_eq_true, true_or, or_true, true_and, and_true]; first | done | omega))); (case hc => (first | omega | (simp (disch := omega) only [zst_ne, zst_s, zup_eq, zup_ne, Int.toNat_natCast, not_true_eq_false, not_false_eq_true, true_or, or_true, true_and, and_true]; first | done | omega)))) | (with_reducible refine zO_brn ?ha ?hb ?hc ?_; (case ha => (first | omega | (simp (disch := omega) only [zst_ne, zst_s, zup_eq, zup_ne, Int.toNat_natCast, not_true_eq_false, not_false_eq_true, true_or, or_true, true_and, and_true]; first | done | omega))); (case hb => (first | omega | (simp (disch := omega) only [zst_ne, zst_s, zup_eq, zup_ne, Int.toNat_natCast, not_true_eq_false, not_false_eq_true, true_or, or_true, true_and, and_true]; first | done | omega))); (case hc => (first | omega | (simp (disch := omega) only [zst_ne, zst_s, zup_eq, zup_ne, Int.toNat_natCast, not_true_eq_false, not_false_eq_true, true_or, or_true, true_and, and_true]; first | done | omega)))) | simp (disch := omega) only [zst_ne, zst_s, zup_eq, zup_ne, Int.toNat_natCast, not_true_eq_false, not_false_eq_true, true_or, or_true, true_and, and_true] | (with_reducible refine zO_br ?ha ?hb (fun _ => ?_) (fun _ => ?_); (case ha => (first | omega | (simp (disch := omega) only [zst_ne, zst_s, zup_eq, zup_ne, Int.toNat_natCast, not_true_eq_false, not_false_eq_true, true_or, or_true, true_and, and_true]; first | done | omega))); (case hb => (first | omega | (simp (disch := omega) only [zst_ne, zst_s, zup_eq, zup_ne, Int.toNat_natCast, not_true_eq_false, not_false_eq_true, true_or, or_true, true_and, and_true]; first | done | omega)))) | (with_reducible refine zO_ifp ?hc ?_; case hc => (first | omega | (simp (disch := omega) only [zst_ne, zst_s, zup_eq, zup_ne, Int.toNat_natCast, not_true_eq_false, not_false_eq_true, true_or, or_true, true_and, and_true]; first | done | omega))) | (with_reducible refine zO_ifn ?hc ?_; case hc => (first | omega | (simp (disch := omega) only [zst_ne, zst_s, zup_eq, zup_ne, Int.toNat_natCast, not_true_eq_false, not_false_eq_true, true_or, or_true, true_and, and_true]; first | done | omega))) | (with_reducible refine zO_somek ?_) | (with_reducible refine zO_inlk ?_) | (with_reducible refine zO_inrk ?_) | (with_reducible refine zO_sp0 ?_) | (with_reducible refine zO_sp1 ?_) | (with_reducible refine zO_sp2 ?_) | (with_reducible refine zO_sp3 ?_) | (with_reducible refine zO_sp4 ?_) | (with_reducible refine zO_b2 ?_) | (with_reducible refine zO_b3 ?_) | (with_reducible refine zO_b4 ?_) | (with_reducible refine zO_bd ?_) | (with_reducible refine zO_b0 ?_) | (with_reducible refine zO_b1 ?_))
        refine zO_inl ⟨by dsimp only; omega, n' + 1, by dsimp only; omega, by omega, (hfr.st (by decide)).st (by decide), ?_, ?_, ?_, ?_⟩
        · dsimp only
          simp (disch := omega) only [zst_ne, zst_s]
          intro x hx
          unfold zup
          split
          · exact Or.inl rfl
          · exact hz x hx
        · dsimp only
          simp (disch := omega) only [zst_ne, zst_s]
          intro x hx
          unfold zup
          split
          · rfl
          · exact h0' x hx
        · dsimp only
          simp (disch := omega) only [zst_ne, zst_s, Int.toNat_natCast]
          exact hA
        · dsimp only
          simp (disch := omega) only [zst_ne, zst_s, zup_eq, zup_ne, Int.toNat_natCast, not_true_eq_false, not_false_eq_true, true_or, or_true, true_and, and_true]
          intro d hd'
          rcases Nat.lt_or_ge d j with h | h
          · rcases hd d h with h3 | h3 | h3
            · exact Or.inl h3
            · exact Or.inr (Or.inl h3)
            · refine Or.inr (Or.inr (zGo_t.2 ⟨(zGo_t.1 h3).1, ?_⟩))
              unfold zup
              split
              · rfl
              · exact (zGo_t.1 h3).2
          · have : d = j := by omega
            subst this
            exact Or.inr (Or.inr (zGo_t.2 ⟨hr0, zup_eq⟩))
  · rintro ⟨y2, y4, M'⟩ hc' ⟨n', hn, hi', hfr, hz, h0', hL', hd⟩
    simp only at hc' hn hi' hfr hz h0' hL' hd
    subst hc' hn
    dsimp only
    rw [gb_X1_spread_44]
    repeat' (first | (with_reducible refine zO_lt ?_) | (with_reducible refine zO_gd ?hc ?_; case hc => (first | omega | (simp (disch := omega) only [zst_ne, zst_s, zup_eq, zup_ne, Int.toNat_natCast, not_true_eq_false, not_false_eq_true, true_or, or_true, true_and, and_true]; first | done | omega))) | (with_reducible refine zO_brp ?ha ?hb ?hc ?_; (case ha => (first | omega | (simp (disch := omega) only [zst_ne, zst_s, zup_eq, zup_ne, Int.toNat_natCast, not_true_eq_false, not_false_eq_true, true_or, or_true, true_and, and_true]; first | done | omega))); (case hb => (first | omega | (simp (disch := omega) only [zst_ne, zst_s, zup_eq, zup_ne, Int.toNat_natCast, not_true_eq_false, not_false_eq_true, true_or, or_true, true_and, and_true]; first | done | omega))); (case hc => (first | omega | (simp (disch := omega) only [zst_ne, zst_s, zup_eq, zup_ne, Int.toNat_natCast, not_true_eq_false, not_false_eq_true, true_or, or_true, true_and, and_true]; first | done | omega)))) | (with_reducible refine zO_brn ?ha ?hb ?hc ?_; (case ha => (first | omega | (simp (disch := omega) only [zst_ne, zst_s, zup_eq, zup_ne, Int.toNat_natCast, not_true_eq_false, not_false_eq_true, true_or, or_true, true_and, and_true]; first | done | omega))); (case hb => (first | omega | (simp (disch := omega) only [zst_ne, zst_s, zup_eq, zup_ne, Int.toNat_natCast, not_true_eq_false, not_false_eq_true, true_or, or_true, true_and, and_true]; first | done | omega))); (case hc => (first | omega | (simp (disch := omega) only [zst_ne, zst_s, zup_eq, zup_ne, Int.toNat_natCast, not_true_eq_false, not_false_eq_true, true_or, or_true, true_and, and_true]; first | done | omega)))) | simp (disch := omega) only [zst_ne, zst_s, zup_eq, zup_ne, Int.toNat_natCast, not_true_eq_false, not_false_eq_true, true_or, or_true, true_and, and_true] | (with_reducible refine zO_br ?ha ?hb (fun _ => ?_) (fun _ => ?_); (case ha => (first | omega | (simp (disch := omega) only [zst_ne, zst_s, zup_eq, zup_ne, Int.toNat_natCast, not_true_eq_false, not_false_eq_true, true_or, or_true, true_and, and_true]; first | done | omega))); (case hb => (first | omega | (simp (disch := omega) only [zst_ne, zst_s, zup_eq, zup_ne, Int.toNat_natCast, not_true_eq_false, not_false_eq_true, true_or, or_true, true_and, and_true]; first | done | omega)))) | (with_reducible refine zO_ifp ?hc ?_; case hc => (first | omega | (simp (disch := omega) only [zst_ne, zst_s, zup_eq, zup_ne, Int.toNat_natCast, not_true_eq_false, not_false_eq_true, true_or, or_true, true_and, and_true]; first | done | omega))) | (with_reducible refine zO_ifn ?hc ?_; case hc => (first | omega | (simp (disch := omega) only [zst_ne, zst_s, zup_eq, zup_ne, Int.toNat_natCast, not_true_eq_false, not_false_eq_true, true_or, or_true, true_and, and_true]; first | done | omega))))
    exact zO_inr ⟨n', rfl, hfr, hz, h0', zL_nxt hL' hi' hd⟩
/-- the class spreads from c -/
theorem g1_spread {k : zK} {c : Int} {M : zM} (hc : 0 ≤ c ∧ c < 256) (h1 : z01 (M 44)) : zO (g_X1_spread k c M) (fun r => zFr [44, 45] M r.1 ∧ (M 44 c.toNat = 0 → r.2 = 0 ∧ r.1 44 = M 44) ∧ (M 44 c.toNat ≠ 0 → r.2 = sIs (zOp (M 44)) c.toNat ∧ z01 (r.1 44) ∧ ∀ x, x < 256 → zOp (r.1 44) x = (zOp (M 44) x && !zRb (zOp (M 44)) c.toNat x))) := by
  unfold g_X1_spread
  obtain ⟨a, rfl⟩ : ∃ a : Nat, c = a := ⟨c.toNat, by omega⟩
  have ha := h1 a (by omega)
  rw [Int.toNat_natCast]
  by_cases hop : M 44 a = 0
  · repeat' (first | (with_reducible refine zO_lt ?_) | (with_reducible refine zO_gd ?hc ?_; case hc => (first | omega | (simp (disch := omega) only [zst_ne, zst_s, zup_eq, zup_ne, Int.toNat_natCast, not_true_eq_false, not_false_eq_true, true_or, or_true, true_and, and_true]; first | done | omega))) | (with_reducible refine zO_brp ?ha ?hb ?hc ?_; (case ha => (first | omega | (simp (disch := omega) only [zst_ne, zst_s, zup_eq, zup_ne, Int.toNat_natCast, not_true_eq_false, not_false_eq_true, true_or, or_true, true_and, and_true]; first | done | omega))); (case hb => (first | omega | (simp (disch := omega) only [zst_ne, zst_s, zup_eq, zup_ne, Int.toNat_natCast, not_true_eq_false, not_false_eq_true, true_or, or_true, true_and, and_true]; first | done | omega))); (case hc => (first | omega | (simp (disch := omega) only [zst_ne, zst_s, zup_eq, zup_ne, Int.toNat_natCast, not_true_eq_false, not_false_eq_true, true_or, or_true, true_and, and_true]; first | done | omega)))) | (with_reducible refine zO_brn ?ha ?hb ?hc ?_; (case ha => (first | omega | (simp (disch := omega) only [zst_ne, zst_s, zup_eq, zup_ne, Int.toNat_natCast, not_true_eq_false, not_false_eq_true, true_or, or_true, true_and, and_true]; first | done | omega))); (case hb => (first | omega | (simp (disch := omega) only [zst_ne, zst_s, zup_eq, zup_ne, Int.toNat_natCast, not_true_eq_false, not_false_eq_true, true_or, or_true, true_and, and_true]; first | done | omega))); (case hc => (first | omega | (simp (disch := omega) only [zst_ne, zst_s, zup_eq, zup_ne, Int.toNat_natCast, not_true_eq_false, not_false_eq_true, true_or, or_true, true_and, and_true]; first | done | omega)))) | simp (disch := omega) only [zst_ne, zst_s, zup_eq, zup_ne, Int.toNat_natCast, not_true_eq_false, not_false_eq_true, true_or, or_true, true_and, and_true] | (with_reducible refine zO_br ?ha ?hb (fun _ => ?_) (fun _ => ?_); (case ha => (first | omega | (simp (disch := omega) only [zst_ne, zst_s, zup_eq, zup_ne, Int.toNat_natCast, not_true_eq_false, not_false_eq_true, true_or, or_true, true_and, and_true]; first | done | omega))); (case hb => (first | omega | (simp (disch := omega) only [zst_ne, zst_s, zup_eq, zup_ne, Int.toNat_natCast, not_true_eq_false, not_false_eq_true, true_or, or_true, true_and, and_true]; first | done | omega)))) | (with_reducible refine zO_ifp ?hc ?_; case hc => (first | omega | (simp (disch := omega) only [zst_ne, zst_s, zup_eq, zup_ne, Int.toNat_natCast, not_true_eq_false, not_false_eq_true, true_or, or_true, true_and, and_true]; first | done | omega))) | (with_reducible refine zO_ifn ?hc ?_; case hc => (first | omega | (simp (disch := omega) only [zst_ne, zst_s, zup_eq, zup_ne, Int.toNat_natCast, not_true_eq_false, not_false_eq_true, true_or, or_true, true_and, and_true]; first | done | omega))))
    exact zO_some ⟨zFr_refl, fun _ => ⟨rfl, rfl⟩, fun h => absurd hop h⟩
  · simp only [Int.toNat_zero]
    repeat' (first | (with_reducible refine zO_lt ?_) | (with_reducible refine zO_gd ?hc ?_; case hc => (first | omega | (simp (disch := omega) only [zst_ne, zst_s, zup_eq, zup_ne, Int.toNat_natCast, not_true_eq_false, not_false_eq_true, true_or, or_true, true_and, and_true]; first | done | omega))) | (with_reducible refine zO_brp ?ha ?hb ?hc ?_; (case ha => (first | omega | (simp (disch := omega) only [zst_ne, zst_s, zup_eq, zup_ne, Int.toNat_natCast, not_true_eq_false, not_false_eq_true, true_or, or_true, true_and, and_true]; first | done | omega))); (case hb => (first | omega | (simp (disch := omega) only [zst_ne, zst_s, zup_eq, zup_ne, Int.toNat_natCast, not_true_eq_false, not_false_eq_true, true_or, or_true, true_and, and_true]; first | done | omega))); (case hc => (first | omega | (simp (disch := omega) only [zst_ne, zst_s, zup_eq, zup_ne, Int.toNat_natCast, not_true_eq_false, not_false_eq_true, true_or, or_true, true_and, and_true]; first | done | omega)))) | (with_reducible refine zO_brn ?ha ?hb ?hc ?_; (case ha => (first | omega | (simp (disch := omega) only [zst_ne, zst_s, zup_eq, zup_ne, Int.toNat_natCast, not_true_eq_false, not_false_eq_true, true_or, or_true, true_and, and_true]; first | done | omega))); (case hb => (first | omega | (simp (disch := omega) only [zst_ne, zst_s, zup_eq, zup_ne, Int.toNat_natCast, not_true_eq_false, not_false_eq_true, true_or, or_true, true_and, and_true]; first | done | omega))); (case hc => (first | omega | (simp (disch := omega) only [zst_ne, zst_s, zup_eq, zup_ne, Int.toNat_natCast, not_true_eq_false, not_false_eq_true, true_or, or_true, true_and, and_true]; first | done | omega)))) | simp (disch := omega) only [zst_ne, zst_s, zup_eq, zup_ne, Int.toNat_natCast, not_true_eq_false, not_false_eq_true, true_or, or_true, true_and, and_true] | (with_reducible refine zO_br ?ha ?hb (fun _ => ?_) (fun _ => ?_); (case ha => (first | omega | (simp (disch := omega) only [zst_ne, zst_s, zup_eq, zup_ne, Int.toNat_natCast, not_true_eq_false, not_false_eq_true, true_or, or_true, true_and, and_true]; first | done | omega))); (case hb => (first | omega | (simp (disch := omega) only [zst_ne, zst_s, zup_eq, zup_ne, Int.toNat_natCast, not_true_eq_false, not_false_eq_true, true_or, or_true, true_and, and_true]; first | done | omega)))) | (with_reducible refine zO_ifp ?hc ?_; case hc => (first | omega | (simp (disch := omega) only [zst_ne, zst_s, zup_eq, zup_ne, Int.toNat_natCast, not_true_eq_false, not_false_eq_true, true_or, or_true, true_and, and_true]; first | done | omega))) | (with_reducible refine zO_ifn ?hc ?_; case hc => (first | omega | (simp (disch := omega) only [zst_ne, zst_s, zup_eq, zup_ne, Int.toNat_natCast, not_true_eq_false, not_false_eq_true, true_or, or_true, true_and, and_true]; first | done | omega))))
    generalize hA : zst (zst M 44 a 0) 45 0 (a : Int) = A
    have fA : zFr [44, 45] M A := by rw [← hA]; exact (zFr_refl.st (by decide)).st (by decide)
    have a44 : A 44 = zup (M 44) a 0 := by rw [← hA]; simp (disch := omega) only [zst_ne, zst_s]
    have a45 : A 45 0 = a := by rw [← hA, zst_eq]
    have hL : zL (zOp (M 44)) a (zGo (M 44) (A 44)) (A 45) 1 0 := by
      refine zL_0 (by omega) a45 (fun x hx => ?_)
      rw [zGo_t, a44]
      unfold zup
      by_cases e : x = a
      · subst e; rw [if_pos rfl]; exact ⟨fun _ => rfl, fun _ => ⟨hop, rfl⟩⟩
      · rw [if_neg e]; exact ⟨fun h => absurd h.2 h.1, fun h => absurd h e⟩
    refine zO_b2 ?_
    unfold zw3
    refine zO_wh (fun t => ∃ n' i' : Nat, t.1 = (n' : Int) ∧ t.2.1 = (i' : Int) ∧ zFr [44, 45] A t.2.2 ∧ z01 (t.2.2 44) ∧ (∀ c, M 44 c = 0 → t.2.2 44 c = 0) ∧ zL (zOp (M 44)) a (zGo (M 44) (t.2.2 44)) (t.2.2 45) n' i') (fun t => 300 - t.2.1.toNat) ?_ zfu _ (by
      dsimp only
      refine ⟨1, 0, rfl, rfl, zFr_refl, ?_, ?_, hL⟩
      · intro x hx; rw [a44]; unfold zup; split
        · exact Or.inl rfl
        · exact h1 x hx
      · intro x hx; rw [a44]; unfold zup; split
        · rfl
        · exact hx) (by unfold zfu; omega)
    rintro ⟨y2, y3, M'⟩ ⟨n', i', e1, e2, hfr, hz, h0, hL'⟩
    simp only at e1 e2 hfr hz h0 hL'
    subst e1 e2
    have hn := zL_n hL'
    have hle := hL'.2.1
    dsimp only
    rw [gb_X1_spread_29]
    rcases Nat.lt_or_ge i' n' with h | h
    · repeat' (first | (with_reducible refine zO_lt ?_) | (with_reducible refine zO_gd ?hc ?_; case hc => (first | omega | (simp (disch := omega) only [zst_ne, zst_s, zup_eq, zup_ne, Int.toNat_natCast, not_true_eq_false, not_false_eq_true, true_or, or_true, true_and, and_true]; first | done | omega))) | (with_reducible refine zO_brp ?ha ?hb ?hc ?_; (case ha => (first | omega | (simp (disch := omega) only [zst_ne, zst_s, zup_eq, zup_ne, Int.toNat_natCast, not_true_eq_false, not_false_eq_true, true_or, or_true, true_and, and_true]; first | done | omega))); (case hb => (first | omega | (simp (disch := omega) only [zst_ne, zst_s, zup_eq, zup_ne, Int.toNat_natCast, not_true_eq_false, not_false_eq_true, true_or, or_true, true_and, and_true]; first | done | omega))); (case hc => (first | omega | (simp (disch := omega) only [zst_ne, zst_s, zup_eq, zup_ne, Int.toNat_natCast, not_true_eq_false, not_false_eq_true, true_or, or_true, true_and, and_true]; first | done | omega)))) | (with_reducible refine zO_brn ?ha ?hb ?hc ?_; (case ha => (first | omega | (simp (disch := omega) only [zst_ne, zst_s, zup_eq, zup_ne, Int.toNat_natCast, not_true_eq_false, not_false_eq_true, true_or, or_true, true_and, and_true]; first | done | omega))); (case hb => (first | omega | (simp (disch := omega) only [zst_ne, zst_s, zup_eq, zup_ne, Int.toNat_natCast, not_true_eq_false, not_false_eq_true, true_or, or_true, true_and, and_true]; first | done | omega))); (case hc => (first | omega | (simp (disch := omega) only [zst_ne, zst_s, zup_eq, zup_ne, Int.toNat_natCast, not_true_eq_false, not_false_eq_true, true_or, or_true, true_and, and_true]; first | done | omega)))) | simp (disch := omega) only [zst_ne, zst_s, zup_eq, zup_ne, Int.toNat_natCast, not_true_eq_false, not_false_eq_true, true_or, or_true, true_and, and_true] | (with_reducible refine zO_br ?ha ?hb (fun _ => ?_) (fun _ => ?_); (case ha => (first | omega | (simp (disch := omega) only [zst_ne, zst_s, zup_eq, zup_ne, Int.toNat_natCast, not_true_eq_false, not_false_eq_true, true_or, or_true, true_and, and_true]; first | done | omega))); (case hb => (first | omega | (simp (disch := omega) only [zst_ne, zst_s, zup_eq, zup_ne, Int.toNat_natCast, not_true_eq_false, not_false_eq_true, true_or, or_true, true_and, and_true]; first | done | omega)))) | (with_reducible refine zO_ifp ?hc ?_; case hc => (first | omega | (simp (disch := omega) only [zst_ne, zst_s, zup_eq, zup_ne, Int.toNat_natCast, not_true_eq_false, not_false_eq_true, true_or, or_true, true_and, and_true]; first | done | omega))) | (with_reducible refine zO_ifn ?hc ?_; case hc => (first | omega | (simp (disch := omega) only [zst_ne, zst_s, zup_eq, zup_ne, Int.toNat_natCast, not_true_eq_false, not_false_eq_true, true_or, or_true, true_and, and_true]; first | done | omega))))
      refine zO_b2 ?_
      refine zO_mono (g1_in (M := M') h hz h0 hL') ?_
      rintro ⟨y, M''⟩ ⟨n'', h3, h4, h5, h6, h7⟩
      refine zO_lt (zO_inl ⟨⟨n'', i' + 1, h3, by dsimp only; omega, hfr.tr h4, h5, h6, h7⟩, ?_⟩)
      dsimp only
      omega
    · have : i' = n' := by omega
      subst this
      obtain ⟨hE, hV⟩ := zL_end hL'
      repeat' (first | (with_reducible refine zO_lt ?_) | (with_reducible refine zO_gd ?hc ?_; case hc => (first | omega | (simp (disch := omega) only [zst_ne, zst_s, zup_eq, zup_ne, Int.toNat_natCast, not_true_eq_false, not_false_eq_true, true_or, or_true, true_and, and_true]; first | done | omega))) | (with_reducible refine zO_brp ?ha ?hb ?hc ?_; (case ha => (first | omega | (simp (disch := omega) only [zst_ne, zst_s, zup_eq, zup_ne, Int.toNat_natCast, not_true_eq_false, not_false_eq_true, true_or, or_true, true_and, and_true]; first | done | omega))); (case hb => (first | omega | (simp (disch := omega) only [zst_ne, zst_s, zup_eq, zup_ne, Int.toNat_natCast, not_true_eq_false, not_false_eq_true, true_or, or_true, true_and, and_true]; first | done | omega))); (case hc => (first | omega | (simp (disch := omega) only [zst_ne, zst_s, zup_eq, zup_ne, Int.toNat_natCast, not_true_eq_false, not_false_eq_true, true_or, or_true, true_and, and_true]; first | done | omega)))) | (with_reducible refine zO_brn ?ha ?hb ?hc ?_; (case ha => (first | omega | (simp (disch := omega) only [zst_ne, zst_s, zup_eq, zup_ne, Int.toNat_natCast, not_true_eq_false, not_false_eq_true, true_or, or_true, true_and, and_true]; first | done | omega))); (case hb => (first | omega | (simp (disch := omega) only [zst_ne, zst_s, zup_eq, zup_ne, Int.toNat_natCast, not_true_eq_false, not_false_eq_true, true_or, or_true, true_and, and_true]; first | done | omega))); (case hc => (first | omega | (simp (disch := omega) only [zst_ne, zst_s, zup_eq, zup_ne, Int.toNat_natCast, not_true_eq_false, not_false_eq_true, true_or, or_true, true_and, and_true]; first | done | omega)))) | simp (disch := omega) only [zst_ne, zst_s, zup_eq, zup_ne, Int.toNat_natCast, not_true_eq_false, not_false_eq_true, true_or, or_true, true_and, and_true] | (with_reducible refine zO_br ?ha ?hb (fun _ => ?_) (fun _ => ?_); (case ha => (first | omega | (simp (disch := omega) only [zst_ne, zst_s, zup_eq, zup_ne, Int.toNat_natCast, not_true_eq_false, not_false_eq_true, true_or, or_true, true_and, and_true]; first | done | omega))); (case hb => (first | omega | (simp (disch := omega) only [zst_ne, zst_s, zup_eq, zup_ne, Int.toNat_natCast, not_true_eq_false, not_false_eq_true, true_or, or_true, true_and, and_true]; first | done | omega)))) | (with_reducible refine zO_ifp ?hc ?_; case hc => (first | omega | (simp (disch := omega) only [zst_ne, zst_s, zup_eq, zup_ne, Int.toNat_natCast, not_true_eq_false, not_false_eq_true, true_or, or_true, true_and, and_true]; first | done | omega))) | (with_reducible refine zO_ifn ?hc ?_; case hc => (first | omega | (simp (disch := omega) only [zst_ne, zst_s, zup_eq, zup_ne, Int.toNat_natCast, not_true_eq_false, not_false_eq_true, true_or, or_true, true_and, and_true]; first | done | omega))))
      refine zO_inr (zO_some ⟨fA.tr hfr, fun h => absurd h hop, fun _ => ⟨hE, hz, fun x hx => ?_⟩⟩)
      dsimp only
      rw [← hV x hx]
      have h5 := hz x hx
      cases hg : zGo (M 44) (M' 44) x
      · rcases zGo_f.1 hg with h6 | h6
        · rw [zOp_f.2 h6, zOp_f.2 (h0 x h6)]; rfl
        · rw [zOp_t.2 h6, zOp_t.2 (fun h => h6 (h0 x h))]; rfl
      · rw [zOp_f.2 (zGo_t.1 hg).2]; simp

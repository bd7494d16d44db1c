/-! the ground, as numbers: m is the row of MIDDLES -/
def sFl1 (m : Nat → Int) (c d : Nat) (s : Int × Int) : Int × Int := if zbs c d ≠ -1 ∧ m (zbs c d).toNat < s.2 then (zbs c d, m (zbs c d).toNat) else s
def sFl (m : Nat → Int) (c : Nat) : Int := (sFl1 m c 3 (sFl1 m c 2 (sFl1 m c 1 (sFl1 m c 0 (-1, m c))))).1
def zFlP (m : Nat → Int) (c : Nat) (r : Int) : Prop := (r = -1 ∧ ∀ d, d < 4 → zbs c d = -1 ∨ m c ≤ m (zbs c d).toNat) ∨ (∃ d, d < 4 ∧ r = zbs c d ∧ 0 ≤ r ∧ m r.toNat < m c ∧ ∀ e, e < 4 → zbs c e = -1 ∨ m r.toNat < m (zbs c e).toNat ∨ (m r.toNat = m (zbs c e).toNat ∧ r ≤ zbs c e))
theorem zbs_o {c d : Nat} (hd : d < 4) : -1 ≤ zbs c d := by
  unfold zbs
  repeat' split
  all_goals omega
theorem zbs_or {c d : Nat} (hc : c < 256) (hd : d < 4) : zbs c d = -1 ∨ (0 ≤ zbs c d ∧ zbs c d < 256 ∧ zbs c d ≠ c) := by
  unfold zbs
  repeat' split
  all_goals omega
/-- the sides' numbers rise -/
theorem zbs_up {c d e : Nat} (hde : d < e) (he : e < 4) (h : zbs c d ≠ -1) (h' : zbs c e ≠ -1) : zbs c d < zbs c e := by
  unfold zbs at *
  rcases (show d = 0 ∨ d = 1 ∨ d = 2 by omega) with rfl | rfl | rfl <;> rcases (show e = 1 ∨ e = 2 ∨ e = 3 by omega) with rfl | rfl | rfl
  all_goals first | omega | (simp at *; repeat' split at *) <;> omega
/-- after so many sides -/
def zFlI (m : Nat → Int) (c j : Nat) (s : Int × Int) : Prop := (s = (-1, m c) ∧ ∀ d, d < j → zbs c d = -1 ∨ m c ≤ m (zbs c d).toNat) ∨ (∃ d, d < j ∧ s.1 = zbs c d ∧ 0 ≤ s.1 ∧ s.2 = m s.1.toNat ∧ s.2 < m c ∧ ∀ e, e < j → zbs c e = -1 ∨ s.2 < m (zbs c e).toNat ∨ (s.2 = m (zbs c e).toNat ∧ s.1 ≤ zbs c e))
theorem zFlI_s {m : Nat → Int} {c j : Nat} {s : Int × Int} (hj : j < 4) (h : zFlI m c j s) : zFlI m c (j + 1) (sFl1 m c j s) := by
  have ho := zbs_o (c := c) hj
  unfold sFl1
  by_cases hc : zbs c j ≠ -1 ∧ m (zbs c j).toNat < s.2
  · rw [if_pos hc]
    refine Or.inr ⟨j, by omega, rfl, by show 0 ≤ zbs c j; omega, rfl, ?_, ?_⟩
    · show m (zbs c j).toNat < m c
      rcases h with ⟨rfl, _⟩ | ⟨d, _, _, _, _, h5, _⟩
      · exact hc.2
      · omega
    · intro e he
      show zbs c e = -1 ∨ m (zbs c j).toNat < m (zbs c e).toNat ∨ (m (zbs c j).toNat = m (zbs c e).toNat ∧ zbs c j ≤ zbs c e)
      rcases Nat.lt_or_ge e j with h1 | h1
      · rcases h with ⟨rfl, h2⟩ | ⟨d, _, _, _, _, h5, h6⟩
        · have := hc.2
          have h3 := h2 e h1
          have h4 : (((-1, m c) : Int × Int)).2 = m c := rfl
          omega
        · have := h6 e h1
          omega
      · have : e = j := by omega
        subst this
        exact Or.inr (Or.inr ⟨rfl, Int.le_refl _⟩)
  · rw [if_neg hc]
    rcases h with ⟨rfl, h2⟩ | ⟨d, h1, h2, h3, h4, h5, h6⟩
    · refine Or.inl ⟨rfl, fun d hd => ?_⟩
      rcases Nat.lt_or_ge d j with h1 | h1
      · exact h2 d h1
      · have : d = j := by omega
        subst this
        have h4 : (((-1, m c) : Int × Int)).2 = m c := rfl
        omega
    · refine Or.inr ⟨d, by omega, h2, h3, h4, h5, fun e he => ?_⟩
      rcases Nat.lt_or_ge e j with h7 | h7
      · exact h6 e h7
      · have : e = j := by omega
        subst this
        by_cases h8 : zbs c e = -1
        · exact Or.inl h8
        · have := zbs_up h1 hj (by omega) h8
          omega
theorem sFl_i {m : Nat → Int} {c : Nat} : zFlI m c 4 (sFl1 m c 3 (sFl1 m c 2 (sFl1 m c 1 (sFl1 m c 0 (-1, m c))))) :=
  zFlI_s (by omega) (zFlI_s (by omega) (zFlI_s (by omega) (zFlI_s (by omega) (Or.inl ⟨rfl, fun d hd => by omega⟩))))
theorem sFl_p {m : Nat → Int} {c : Nat} : zFlP m c (sFl m c) := by
  rcases sFl_i (m := m) (c := c) with ⟨h1, h2⟩ | ⟨d, h1, h2, h3, h4, h5, h6⟩
  · exact Or.inl ⟨by unfold sFl; rw [h1], h2⟩
  · refine Or.inr ⟨d, h1, h2, h3, ?_, ?_⟩
    · unfold sFl; rw [← h4]; exact h5
    · unfold sFl; rw [← h4]; exact h6
theorem sFl_u {m : Nat → Int} {c : Nat} {r : Int} (h : zFlP m c r) : r = sFl m c := by
  have h' := sFl_p (m := m) (c := c)
  generalize sFl m c = q at *
  rcases h with ⟨h1, h2⟩ | ⟨d, h1, h2, h3, h4, h5⟩ <;> rcases h' with ⟨k1, k2⟩ | ⟨e, k1, k2, k3, k4, k5⟩
  · omega
  · have := h2 e k1
    rw [← k2] at this
    omega
  · have := k2 d h1
    rw [← h2] at this
    omega
  · have a := h5 e k1
    have b := k5 d h1
    rw [← k2] at a
    rw [← h2] at b
    omega
theorem sFl_r {m : Nat → Int} {c : Nat} (hc : c < 256) : sFl m c = -1 ∨ (0 ≤ sFl m c ∧ sFl m c < 256 ∧ m (sFl m c).toNat < m c ∧ ∃ d, d < 4 ∧ sFl m c = zbs c d) := by
  rcases sFl_p (m := m) (c := c) with ⟨h1, _⟩ | ⟨d, h1, h2, h3, h4, _⟩
  · exact Or.inl h1
  · have := zbs_r (c := c) (d := d) hc
    exact Or.inr ⟨h3, by omega, h4, d, h1, h2⟩
theorem sFl_congr {m m' : Nat → Int} {c : Nat} (hc : c < 256) (h : ∀ j, j < 256 → m j = m' j) : sFl m c = sFl m' c := by
  have hb : ∀ d, (m (zbs c d).toNat = m' (zbs c d).toNat) := fun d => by
    have := zbs_r (c := c) (d := d) hc
    exact h _ (by omega)
  unfold sFl sFl1
  simp only [hb, h c hc]
/-- the ground's numbers -/
def zMid (m : Nat → Int) : Prop := ∀ c, c < 256 → 0 ≤ m c ∧ m c ≤ 198
def sOn (m : Nat → Int) : Nat → Nat → Nat → Int
  | 0, a, x => if a = x then 1 else 0
  | f + 1, a, x => if a = x then 1 else if sFl m a = -1 then 0 else sOn m f (sFl m a).toNat x
theorem sOn_f {m : Nat → Int} (hm : zMid m) {x : Nat} : ∀ f g a : Nat, a < 256 → m a ≤ f → m a ≤ g → sOn m f a x = sOn m g a x := by
  intro f
  induction f with
  | zero =>
    intro g a ha h1 _
    cases g with
    | zero => rfl
    | succ g =>
      unfold sOn
      rcases sFl_r (m := m) ha with h | ⟨h2, h3, h4, _⟩
      · rw [if_pos h]
      · have := hm (sFl m a).toNat (by omega)
        omega
  | succ f ih =>
    intro g a ha h1 h2
    cases g with
    | zero =>
      unfold sOn
      rcases sFl_r (m := m) ha with h | ⟨h3, h4, h5, _⟩
      · rw [if_pos h]
      · have := hm (sFl m a).toNat (by omega)
        omega
    | succ g =>
      unfold sOn
      rcases sFl_r (m := m) ha with h | ⟨h3, h4, h5, _⟩
      · rw [if_pos h, if_pos h]
      · rw [ih g (sFl m a).toNat (by omega) (by omega) (by omega)]
def sOnn (m : Nat → Int) (a x : Nat) : Int := sOn m 200 a x
theorem sOnn_s {m : Nat → Int} (hm : zMid m) {a x : Nat} (ha : a < 256) : sOnn m a x = if a = x then 1 else if sFl m a = -1 then 0 else sOnn m (sFl m a).toNat x := by
  unfold sOnn
  rw [sOn]
  rcases sFl_r (m := m) ha with h | ⟨h3, h4, h5, _⟩
  · rw [if_pos h, if_pos h]
  · have h1 := hm a ha
    have h2 := hm (sFl m a).toNat (by omega)
    rw [sOn_f hm 199 200 (sFl m a).toNat (by omega) (by omega) (by omega)]
/-- by the MIDDLE -/
theorem zmid_ind {m : Nat → Int} (hm : zMid m) {Q : Nat → Prop} (h : ∀ a, a < 256 → (sFl m a ≠ -1 → Q (sFl m a).toNat) → Q a) : ∀ a, a < 256 → Q a := by
  have key : ∀ n : Nat, ∀ a, a < 256 → m a < n → Q a := by
    intro n
    induction n with
    | zero => intro a ha hn; have := hm a ha; omega
    | succ n ih =>
      intro a ha hn
      refine h a ha (fun hf => ?_)
      rcases sFl_r (m := m) ha with h1 | ⟨h3, h4, h5, _⟩
      · exact absurd h1 hf
      · exact ih _ (by omega) (by omega)
  intro a ha
  have := hm a ha
  exact key 199 a ha (by omega)
theorem sOnn_01 {m : Nat → Int} (hm : zMid m) {x : Nat} : ∀ a, a < 256 → (sOnn m a x = 0 ∨ sOnn m a x = 1) := by
  refine zmid_ind hm (fun a ha ih => ?_)
  rw [sOnn_s hm ha]
  by_cases h : a = x
  · rw [if_pos h]; exact Or.inr rfl
  · rw [if_neg h]
    by_cases h2 : sFl m a = -1
    · rw [if_pos h2]; exact Or.inl rfl
    · rw [if_neg h2]; exact ih h2
theorem sOnn_z {m : Nat → Int} (hm : zMid m) {x : Nat} : ∀ a, a < 256 → m a < m x → sOnn m a x = 0 := by
  refine zmid_ind hm (fun a ha ih hx => ?_)
  rw [sOnn_s hm ha, if_neg (fun h => by subst h; omega)]
  by_cases h2 : sFl m a = -1
  · rw [if_pos h2]
  · rw [if_neg h2]
    rcases sFl_r (m := m) ha with h1 | ⟨h3, h4, h5, _⟩
    · exact absurd h1 h2
    · exact ih h2 (by omega)
theorem sOnn_up {m : Nat → Int} (hm : zMid m) {x : Nat} (hx : x < 256) : ∀ a, a < 256 → sOnn m a x = (if a = x then 1 else 0) + zsum 256 (fun b => if sFl m b = x then sOnn m a b else 0) := by
  refine zmid_ind hm (fun a ha ih => ?_)
  by_cases h : a = x
  · subst h
    rw [sOnn_s hm ha, if_pos rfl, if_pos rfl, zsum_zero]
    · rfl
    · intro b hb
      by_cases h1 : sFl m b = a
      · rw [if_pos h1]
        rcases sFl_r (m := m) hb with h2 | ⟨h3, h4, h5, _⟩
        · omega
        · refine sOnn_z hm a ha ?_
          rw [h1] at h5
          simpa using h5
      · rw [if_neg h1]
  · rw [sOnn_s hm ha, if_neg h, if_neg h]
    by_cases h2 : sFl m a = -1
    · rw [if_pos h2, zsum_zero]
      · rfl
      · intro b hb
        by_cases h1 : sFl m b = x
        · rw [if_pos h1, sOnn_s hm ha, if_neg (fun e => by subst e; omega), if_pos h2]
        · rw [if_neg h1]
    · rw [if_neg h2]
      rcases sFl_r (m := m) ha with h1 | ⟨h3, h4, h5, _⟩
      · exact absurd h1 h2
      · rw [ih h2]
        have e : zsum 256 (fun b => if sFl m b = x then sOnn m a b else 0) = zsum 256 (fun b => (if b = a then (if sFl m a = x then 1 else 0) else 0) + (if sFl m b = x then sOnn m (sFl m a).toNat b else 0)) := by
          refine zsum_congr (fun b hb => ?_)
          by_cases e1 : sFl m b = x
          · rw [if_pos e1, if_pos e1, sOnn_s hm ha, if_neg h2]
            by_cases e2 : a = b
            · subst e2
              rw [if_pos rfl, if_pos rfl, if_pos e1, sOnn_z hm _ (by omega) h5]
              rfl
            · rw [if_neg e2, if_neg (fun h => e2 h.symm)]
              omega
          · rw [if_neg e1, if_neg e1]
            by_cases e2 : b = a
            · subst e2
              rw [if_pos rfl, if_neg e1]
              rfl
            · rw [if_neg e2]
              rfl
        rw [e, zsum_add, zsum_one ha]
        by_cases e3 : sFl m a = x
        · rw [if_pos e3, if_pos (by omega)]
          omega
        · rw [if_neg e3, if_neg (by omega)]
          omega
/-- how many come through -/
def sU (m : Nat → Int) (x : Nat) : Int := zsum 256 (fun a => sOnn m a x)
theorem sU_nn {m : Nat → Int} (hm : zMid m) {x : Nat} : 0 ≤ sU m x := zsum_nn (fun a ha => by rcases sOnn_01 hm (x := x) a ha with h | h <;> omega)
theorem sU_up {m : Nat → Int} (hm : zMid m) {x : Nat} (hx : x < 256) : sU m x = 1 + zsum 256 (fun b => if sFl m b = x then sU m b else 0) := by
  unfold sU
  rw [zsum_congr (fun a ha => sOnn_up hm hx a ha), zsum_add, zsum_one hx, zsum_swap]
  have e : ∀ b, b < 256 → zsum 256 (fun a => if sFl m b = x then sOnn m a b else 0) = (if sFl m b = x then zsum 256 (fun a => sOnn m a b) else 0) := by
    intro b _
    by_cases h : sFl m b = x
    · rw [if_pos h]
      exact zsum_congr (fun a _ => by rw [if_pos h])
    · rw [if_neg h]
      exact zsum_zero (fun a _ => by rw [if_neg h])
  rw [zsum_congr e]
def sRiv (m : Nat → Int) (x : Nat) : Int := zmin (sU m x) 99
theorem sRiv_r {m : Nat → Int} (hm : zMid m) {x : Nat} : 0 ≤ sRiv m x ∧ sRiv m x ≤ 99 := by
  have := sU_nn hm (x := x)
  unfold sRiv zmin
  omega
theorem sRiv_up {m : Nat → Int} (hm : zMid m) {x : Nat} (hx : x < 256) : sRiv m x = zmin (1 + zsum 256 (fun b => if sFl m b = x then sRiv m b else 0)) 99 := by
  have h1 : zsum 256 (fun b => if sFl m b = x then sRiv m b else 0) = zsum 256 (fun b => zmin (if sFl m b = x then sU m b else 0) 99) := by
    refine zsum_congr (fun b _ => ?_)
    by_cases h : sFl m b = x
    · rw [if_pos h, if_pos h]; rfl
    · rw [if_neg h, if_neg h]; rfl
  rw [h1, zsum_cap (fun b _ => by
    by_cases h : sFl m b = x
    · rw [if_pos h]; exact sU_nn hm
    · rw [if_neg h]; omega) (by omega), ← sU_up hm hx]
  rfl
/-- where the water ends -/
def sEnd0 (m : Nat → Int) : Nat → Nat → Nat
  | 0, c => c
  | f + 1, c => if sFl m c = -1 then c else sEnd0 m f (sFl m c).toNat
theorem sEnd0_f {m : Nat → Int} (hm : zMid m) : ∀ f g a : Nat, a < 256 → m a ≤ f → m a ≤ g → sEnd0 m f a = sEnd0 m g a := by
  intro f
  induction f with
  | zero =>
    intro g a ha h1 _
    cases g with
    | zero => rfl
    | succ g =>
      unfold sEnd0
      rcases sFl_r (m := m) ha with h | ⟨h2, h3, h4, _⟩
      · rw [if_pos h]
      · have := hm (sFl m a).toNat (by omega)
        omega
  | succ f ih =>
    intro g a ha h1 h2
    cases g with
    | zero =>
      unfold sEnd0
      rcases sFl_r (m := m) ha with h | ⟨h3, h4, h5, _⟩
      · rw [if_pos h]
      · have := hm (sFl m a).toNat (by omega)
        omega
    | succ g =>
      unfold sEnd0
      rcases sFl_r (m := m) ha with h | ⟨h3, h4, h5, _⟩
      · rw [if_pos h, if_pos h]
      · rw [ih g (sFl m a).toNat (by omega) (by omega) (by omega)]
def sEnd (m : Nat → Int) (c : Nat) : Nat := sEnd0 m 200 c
theorem sEnd_s {m : Nat → Int} (hm : zMid m) {a : Nat} (ha : a < 256) : sEnd m a = if sFl m a = -1 then a else sEnd m (sFl m a).toNat := by
  unfold sEnd
  rw [sEnd0]
  rcases sFl_r (m := m) ha with h | ⟨h3, h4, h5, _⟩
  · rw [if_pos h, if_pos h]
  · have h1 := hm a ha
    have h2 := hm (sFl m a).toNat (by omega)
    rw [sEnd0_f hm 199 200 (sFl m a).toNat (by omega) (by omega) (by omega)]
theorem sEnd_r {m : Nat → Int} (hm : zMid m) : ∀ a, a < 256 → sEnd m a < 256 := by
  refine zmid_ind hm (fun a ha ih => ?_)
  rw [sEnd_s hm ha]
  by_cases h2 : sFl m a = -1
  · rw [if_pos h2]; exact ha
  · rw [if_neg h2]; exact ih h2
/-- how many around are higher -/
def sWd (m : Nat → Int) (c d : Nat) : Int := if 1 ≤ c % 16 + d % 3 ∧ c % 16 + d % 3 ≤ 16 ∧ 1 ≤ c / 16 + d / 3 ∧ c / 16 + d / 3 ≤ 16 ∧ m c < m (16 * (c / 16 + d / 3 - 1) + (c % 16 + d % 3 - 1)) then 1 else 0
def sWind (m : Nat → Int) (c : Nat) : Int := zsum 9 (sWd m c)
theorem sWd_r {m : Nat → Int} {c d : Nat} : 0 ≤ sWd m c d ∧ sWd m c d ≤ 1 := by unfold sWd; split <;> omega
theorem sWind_r {m : Nat → Int} {c : Nat} : 0 ≤ sWind m c ∧ sWind m c ≤ 9 := by
  have h1 : 0 ≤ sWind m c := zsum_nn (fun d _ => (sWd_r (m := m) (c := c) (d := d)).1)
  have h2 : sWind m c ≤ (9 : Nat) * 1 := zsum_le (fun d _ => (sWd_r (m := m) (c := c) (d := d)).2)
  omega
/-! ranks -/
theorem zpig : ∀ (n : Nat) (f : Nat → Nat), (∀ a, a < n → f a < n) → (∀ a b, a < n → b < n → f a = f b → a = b) → ∀ i, i < n → ∃ a, a < n ∧ f a = i := by
  intro n
  induction n with
  | zero => intro f _ _ i hi; omega
  | succ n ih =>
    intro f hb hi i hin
    have h1 := ih (fun a => if f a = n then f n else f a) (fun a ha => by
      have h2 := hb a (by omega)
      have h3 := hb n (by omega)
      show (if f a = n then f n else f a) < n
      by_cases h4 : f a = n
      · rw [if_pos h4]
        have : f n ≠ n := fun e => by have := hi a n (by omega) (by omega) (by omega); omega
        omega
      · rw [if_neg h4]; omega) (fun a b ha hb' e => by
      have e' : (if f a = n then f n else f a) = (if f b = n then f n else f b) := e
      by_cases h4 : f a = n
      · by_cases h5 : f b = n
        · exact hi a b (by omega) (by omega) (by omega)
        · rw [if_pos h4, if_neg h5] at e'
          have := hi n b (by omega) (by omega) e'
          omega
      · by_cases h5 : f b = n
        · rw [if_neg h4, if_pos h5] at e'
          have := hi a n (by omega) (by omega) e'
          omega
        · rw [if_neg h4, if_neg h5] at e'
          exact hi a b (by omega) (by omega) e')
    by_cases h6 : i = f n
    · exact ⟨n, by omega, h6.symm⟩
    · by_cases h7 : i = n
      · have h8 := hb n (by omega)
        obtain ⟨a, ha, e⟩ := h1 (f n) (by omega)
        have e' : (if f a = n then f n else f a) = f n := e
        by_cases h4 : f a = n
        · exact ⟨a, by omega, by omega⟩
        · rw [if_neg h4] at e'
          have := hi a n (by omega) (by omega) e'
          omega
      · obtain ⟨a, ha, e⟩ := h1 i (by omega)
        have e' : (if f a = n then f n else f a) = i := e
        by_cases h4 : f a = n
        · rw [if_pos h4] at e'; omega
        · rw [if_neg h4] at e'; exact ⟨a, by omega, e'⟩
/-- how many stand ahead of c, by the key and then by number -/
def sRk (m : Nat → Int) (c : Nat) : Int := zsum 256 (fun b => if m b < m c ∨ (m b = m c ∧ b < c) then 1 else 0)
theorem sRk_lt {m : Nat → Int} {a b : Nat} (ha : a < 256) (h : m a < m b ∨ (m a = m b ∧ a < b)) : sRk m a < sRk m b := by
  have h1 : sRk m a + 1 = zsum 256 (fun c => (if m c < m a ∨ (m c = m a ∧ c < a) then 1 else 0) + (if c = a then 1 else 0)) := by
    rw [zsum_add, zsum_one ha]; rfl
  have h2 : zsum 256 (fun c => ((if m c < m a ∨ (m c = m a ∧ c < a) then 1 else 0) + (if c = a then 1 else 0) : Int)) ≤ sRk m b := by
    refine zsum_mono (fun c _ => ?_)
    by_cases e : c = a
    · subst e
      rw [if_neg (by omega), if_pos rfl, if_pos h]; omega
    · rw [if_neg e]
      by_cases e2 : m c < m a ∨ (m c = m a ∧ c < a)
      · rw [if_pos e2, if_pos (by omega)]; omega
      · rw [if_neg e2]; split <;> omega
  omega
theorem sRk_nn {m : Nat → Int} {c : Nat} : 0 ≤ sRk m c := zsum_nn (fun b _ => by show 0 ≤ (if _ then (1 : Int) else 0); split <;> omega)
theorem sRk_r {m : Nat → Int} {c : Nat} (hc : c < 256) : 0 ≤ sRk m c ∧ sRk m c < 256 := by
  refine ⟨sRk_nn, ?_⟩
  have h1 : sRk m c + 1 = zsum 256 (fun b => (if m b < m c ∨ (m b = m c ∧ b < c) then 1 else 0) + (if b = c then 1 else 0)) := by
    rw [zsum_add, zsum_one hc]; rfl
  have h2 : zsum 256 (fun b => ((if m b < m c ∨ (m b = m c ∧ b < c) then 1 else 0) + (if b = c then 1 else 0) : Int)) ≤ (256 : Nat) * 1 := by
    refine zsum_le (fun b _ => ?_)
    by_cases e : b = c
    · subst e
      rw [if_neg (by omega), if_pos rfl]; omega
    · rw [if_neg e]; split <;> omega
  omega
theorem sRk_inj {m : Nat → Int} {a b : Nat} (ha : a < 256) (hb : b < 256) (h : sRk m a = sRk m b) : a = b := by
  by_cases e : a = b
  · exact e
  · rcases (show (m a < m b ∨ (m a = m b ∧ a < b)) ∨ (m b < m a ∨ (m b = m a ∧ b < a)) by omega) with h1 | h1
    · have := sRk_lt ha h1; omega
    · have := sRk_lt hb h1; omega
theorem sRk_sur {m : Nat → Int} {k : Int} (h0 : 0 ≤ k) (hk : k < 256) : ∃ a, a < 256 ∧ sRk m a = k := by
  obtain ⟨a, ha, e⟩ := zpig 256 (fun c => (sRk m c).toNat) (fun a ha => by have := sRk_r (m := m) ha; show (sRk m a).toNat < 256; omega) (fun a b ha hb e => by
    have h1 := sRk_r (m := m) ha
    have h2 := sRk_r (m := m) hb
    have e' : (sRk m a).toNat = (sRk m b).toNat := e
    exact sRk_inj (m := m) ha hb (by omega)) k.toNat (by omega)
  have e' : (sRk m a).toNat = k.toNat := e
  have h1 := sRk_r (m := m) ha
  exact ⟨a, ha, by omega⟩

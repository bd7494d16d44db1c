/-! steps to the sea -/
def zNear (s : Nat → Bool) : Nat → Nat → Bool
  | 0, c => s c
  | n + 1, c => zNear s n c || (zbs c 0 != -1 && zNear s n (zbs c 0).toNat) || (zbs c 1 != -1 && zNear s n (zbs c 1).toNat) || (zbs c 2 != -1 && zNear s n (zbs c 2).toNat) || (zbs c 3 != -1 && zNear s n (zbs c 3).toNat)
theorem zNear_s {s : Nat → Bool} {n c : Nat} : zNear s (n + 1) c = true ↔ zNear s n c = true ∨ ∃ d, d < 4 ∧ zbs c d ≠ -1 ∧ zNear s n (zbs c d).toNat = true := by
  rw [zNear]
  simp only [Bool.or_eq_true, Bool.and_eq_true, bne_iff_ne]
  constructor
  · rintro ((((h | h) | h) | h) | h)
    · exact Or.inl h
    · exact Or.inr ⟨0, by omega, h⟩
    · exact Or.inr ⟨1, by omega, h⟩
    · exact Or.inr ⟨2, by omega, h⟩
    · exact Or.inr ⟨3, by omega, h⟩
  · rintro (h | ⟨d, hd, h⟩)
    · exact Or.inl (Or.inl (Or.inl (Or.inl h)))
    · rcases (show d = 0 ∨ d = 1 ∨ d = 2 ∨ d = 3 by omega) with rfl | rfl | rfl | rfl
      · exact Or.inl (Or.inl (Or.inl (Or.inr h)))
      · exact Or.inl (Or.inl (Or.inr h))
      · exact Or.inl (Or.inr h)
      · exact Or.inr h
theorem zNear_m {s : Nat → Bool} {c n : Nat} (h : zNear s n c = true) : ∀ k, zNear s (n + k) c = true := by
  intro k
  induction k with
  | zero => exact h
  | succ k ih => exact zNear_s.2 (Or.inl ih)
theorem zNear_mm {s : Nat → Bool} {c n k : Nat} (h : zNear s n c = true) (hk : n ≤ k) : zNear s k c = true := by
  have := zNear_m h (k - n)
  rw [show n + (k - n) = k by omega] at this
  exact this
/-- beside is both ways -/
theorem zbs_sym {c d : Nat} (hc : c < 256) (hd : d < 4) (h : zbs c d ≠ -1) : ∃ e, e < 4 ∧ zbs (zbs c d).toNat e = (c : Int) := by
  rcases (show d = 0 ∨ d = 1 ∨ d = 2 ∨ d = 3 by omega) with rfl | rfl | rfl | rfl
  · refine ⟨3, by omega, ?_⟩
    unfold zbs at *
    simp at *
    omega
  · refine ⟨2, by omega, ?_⟩
    unfold zbs at *
    simp at *
    omega
  · refine ⟨1, by omega, ?_⟩
    unfold zbs at *
    simp at *
    omega
  · refine ⟨0, by omega, ?_⟩
    unfold zbs at *
    simp at *
    omega
def sCo (s : Nat → Bool) (c : Nat) : Int := zsum 99 (fun n => if zNear s n c = true then 0 else 1)
theorem sCo_r {s : Nat → Bool} {c : Nat} : 0 ≤ sCo s c ∧ sCo s c ≤ 99 := by
  have h1 : 0 ≤ sCo s c := zsum_nn (fun n _ => by show 0 ≤ (if _ then (0 : Int) else 1); split <;> omega)
  have h2 : sCo s c ≤ (99 : Nat) * 1 := zsum_le (fun n _ => by show (if _ then (0 : Int) else 1) ≤ 1; split <;> omega)
  omega
theorem sCo_n {s : Nat → Bool} {c n : Nat} (hn : n < 99) : sCo s c ≤ n ↔ zNear s n c = true := by
  have hsp : sCo s c = zsum n (fun n => if zNear s n c = true then 0 else 1) + zsum (99 - n) (fun j => if zNear s (n + j) c = true then 0 else 1) := by
    unfold sCo
    rw [← zsum_app, show n + (99 - n) = 99 by omega]
  constructor
  · intro h
    by_cases hh : zNear s n c = true
    · exact hh
    · exfalso
      have h1 : sCo s c = zsum (n + 1) (fun n => if zNear s n c = true then 0 else 1) + zsum (99 - (n + 1)) (fun j => if zNear s (n + 1 + j) c = true then 0 else 1) := by
        unfold sCo
        rw [← zsum_app, show n + 1 + (99 - (n + 1)) = 99 by omega]
      have h2 : zsum (n + 1) (fun n => if zNear s n c = true then (0 : Int) else 1) = ((n + 1 : Nat) : Int) * 1 := by
        rw [zsum_congr (g := fun _ => (1 : Int)) (fun j hj => if_neg (fun hj' => hh (zNear_mm hj' (by omega))))]
        clear h1 h hsp hh hn
        induction n + 1 with
        | zero => rfl
        | succ k ih => rw [zsum_s, ih]; omega
      have h3 : 0 ≤ zsum (99 - (n + 1)) (fun j => if zNear s (n + 1 + j) c = true then (0 : Int) else 1) := zsum_nn (fun n _ => by show 0 ≤ (if _ then (0 : Int) else 1); split <;> omega)
      omega
  · intro h
    have h1 : zsum (99 - n) (fun j => if zNear s (n + j) c = true then (0 : Int) else 1) = 0 := zsum_zero (fun j _ => if_pos (zNear_m h j))
    have h2 : zsum n (fun n => if zNear s n c = true then (0 : Int) else 1) ≤ (n : Int) * 1 := zsum_le (fun n _ => by show (if _ then (0 : Int) else 1) ≤ 1; split <;> omega)
    omega
theorem sCo_0 {s : Nat → Bool} {c : Nat} : sCo s c = 0 ↔ s c = true := by
  have h := sCo_n (s := s) (c := c) (n := 0) (by omega)
  have := sCo_r (s := s) (c := c)
  constructor
  · intro e; exact h.1 (by omega)
  · intro e; have := h.2 e; omega
theorem sCo_b {s : Nat → Bool} {c d : Nat} (hc : c < 256) (hd : d < 4) (hb : zbs c d ≠ -1) (h : sCo s c < 98) : sCo s (zbs c d).toNat ≤ sCo s c + 1 := by
  have hr := sCo_r (s := s) (c := c)
  obtain ⟨n, hn⟩ : ∃ n : Nat, sCo s c = n := ⟨(sCo s c).toNat, by omega⟩
  have h1 := (sCo_n (s := s) (c := c) (n := n) (by omega)).1 (by omega)
  obtain ⟨e, he, hs⟩ := zbs_sym hc hd hb
  have h2 : zNear s (n + 1) (zbs c d).toNat = true := zNear_s.2 (Or.inr ⟨e, he, by omega, by rw [hs]; exact h1⟩)
  have := (sCo_n (s := s) (c := (zbs c d).toNat) (n := n + 1) (by omega)).2 h2
  omega
theorem sCo_p {s : Nat → Bool} {c : Nat} (h0 : sCo s c ≠ 0) (h : sCo s c < 99) : ∃ d, d < 4 ∧ zbs c d ≠ -1 ∧ sCo s (zbs c d).toNat < sCo s c := by
  have hr := sCo_r (s := s) (c := c)
  obtain ⟨n, hn⟩ : ∃ n : Nat, sCo s c = ((n + 1 : Nat) : Int) := ⟨(sCo s c).toNat - 1, by omega⟩
  have h1 := (sCo_n (s := s) (c := c) (n := n + 1) (by omega)).1 (by omega)
  rcases zNear_s.1 h1 with h2 | ⟨d, hd, hb, h2⟩
  · have := (sCo_n (s := s) (c := c) (n := n) (by omega)).2 h2
    omega
  · have := (sCo_n (s := s) (c := (zbs c d).toNat) (n := n) (by omega)).2 h2
    exact ⟨d, hd, hb, by omega⟩
/-- across and along -/
theorem zNear_man {s : Nat → Bool} {q : Nat} (hq : q < 256) (hs : s q = true) : ∀ (n c : Nat), c < 256 → ((c % 16 : Nat) - (q % 16 : Nat) : Int).natAbs + ((c / 16 : Nat) - (q / 16 : Nat) : Int).natAbs ≤ n → zNear s n c = true := by
  intro n
  induction n with
  | zero =>
    intro c hc h
    have : c = q := by omega
    subst this
    exact hs
  | succ n ih =>
    intro c hc h
    by_cases e : c = q
    · subst e
      exact zNear_mm (n := 0) hs (by omega)
    · refine zNear_s.2 (Or.inr ?_)
      rcases (show c % 16 < q % 16 ∨ q % 16 < c % 16 ∨ (c % 16 = q % 16 ∧ c / 16 < q / 16) ∨ (c % 16 = q % 16 ∧ q / 16 < c / 16) by omega) with h1 | h1 | h1 | h1
      · have e2 : zbs c 2 = ((c + 1 : Nat) : Int) := by unfold zbs; simp; omega
        refine ⟨2, by omega, by omega, ?_⟩
        rw [e2, Int.toNat_natCast]
        exact ih (c + 1) (by omega) (by omega)
      · have e2 : zbs c 1 = ((c - 1 : Nat) : Int) := by unfold zbs; simp; omega
        refine ⟨1, by omega, by omega, ?_⟩
        rw [e2, Int.toNat_natCast]
        exact ih (c - 1) (by omega) (by omega)
      · have e2 : zbs c 3 = ((c + 16 : Nat) : Int) := by unfold zbs; simp; omega
        refine ⟨3, by omega, by omega, ?_⟩
        rw [e2, Int.toNat_natCast]
        exact ih (c + 16) (by omega) (by omega)
      · have e2 : zbs c 0 = ((c - 16 : Nat) : Int) := by unfold zbs; simp; omega
        refine ⟨0, by omega, by omega, ?_⟩
        rw [e2, Int.toNat_natCast]
        exact ih (c - 16) (by omega) (by omega)
theorem zNear_sea {s : Nat → Bool} : ∀ (n c : Nat), c < 256 → zNear s n c = true → ∃ q, q < 256 ∧ s q = true := by
  intro n
  induction n with
  | zero => intro c hc h; exact ⟨c, hc, h⟩
  | succ n ih =>
    intro c hc h
    rcases zNear_s.1 h with h | ⟨d, hd, hb, h⟩
    · exact ih c hc h
    · have := zbs_r (c := c) (d := d) hc
      exact ih _ (by omega) h
theorem sCo_30 {s : Nat → Bool} {c : Nat} (hc : c < 256) (h : sCo s c < 99) : sCo s c ≤ 30 := by
  have h1 := (sCo_n (s := s) (c := c) (n := 98) (by omega)).1 (by omega)
  obtain ⟨q, hq, hs⟩ := zNear_sea 98 c hc h1
  have := (sCo_n (s := s) (c := c) (n := 30) (by omega)).2 (zNear_man hq hs 30 c hc (by omega))
  omega
/-- so far: co what is written, qu who waits, n how many, i which is next -/
def zBq (s : Nat → Bool) (co qu : Nat → Int) (n i : Nat) : Prop :=
  (n : Int) = zsum 256 (fun c => if co c < 99 then 1 else 0) ∧ i ≤ n ∧
  (∀ q, q < n → 0 ≤ qu q ∧ qu q < 256 ∧ co (qu q).toNat = sCo s (qu q).toNat ∧ sCo s (qu q).toNat < 99) ∧
  (∀ c : Nat, c < 256 → co c = 99 ∨ (co c < 99 ∧ ∃ q, q < n ∧ qu q = (c : Int))) ∧
  (∀ p q, p ≤ q → q < n → sCo s (qu p).toNat ≤ sCo s (qu q).toNat) ∧
  (∀ q, q < n → i < n → sCo s (qu q).toNat ≤ sCo s (qu i).toNat + 1) ∧
  (∀ p d, p < i → d < 4 → zbs (qu p).toNat d = -1 ∨ co (zbs (qu p).toNat d).toNat < 99) ∧
  (∀ c, c < 256 → s c = true → co c < 99)
theorem zB_vis {s : Nat → Bool} {co qu : Nat → Int} {n i : Nat} (h : zBq s co qu n i) {b : Int} (hb : b < 99) (hi : ∀ q, q < n → sCo s (qu q).toNat < b → q < i) : ∀ (v : Nat) (c : Nat), c < 256 → sCo s c = v → sCo s c ≤ b → co c < 99 := by
  obtain ⟨h1, h2, h3, h4, h5, h6, h7, h8⟩ := h
  intro v
  induction v using Nat.strongRecOn with
  | _ v ih =>
    intro c hc hv hcb
    by_cases h0 : sCo s c = 0
    · exact h8 c hc (sCo_0.1 h0)
    · obtain ⟨d, hd, hbd, hlt⟩ := sCo_p h0 (by omega)
      have hr := zbs_r (c := c) (d := d) hc
      have ho := zbs_o (c := c) hd
      have hrr := sCo_r (s := s) (c := (zbs c d).toNat)
      have hvis := ih (sCo s (zbs c d).toNat).toNat (by omega) (zbs c d).toNat (by omega) (by omega) (by omega)
      rcases h4 (zbs c d).toNat (by omega) with h9 | ⟨_, q, hq, e⟩
      · omega
      · have hqi := hi q hq (by rw [e, Int.toNat_natCast]; omega)
        obtain ⟨e', he', hs⟩ := zbs_sym hc hd hbd
        have := h7 q e' hqi he'
        rw [e, Int.toNat_natCast, hs, Int.toNat_natCast] at this
        omega
theorem zB_add {s : Nat → Bool} {co qu : Nat → Int} {n i d : Nat} (h : zBq s co qu n i) (hi : i < n) (hd : d < 4) (hb : zbs (qu i).toNat d ≠ -1) (hc : co (zbs (qu i).toNat d).toNat = 99) : zBq s (zup co (zbs (qu i).toNat d).toNat (co (qu i).toNat + 1)) (zup qu n (zbs (qu i).toNat d)) (n + 1) i ∧ n < 256 ∧ 0 ≤ co (qu i).toNat ∧ co (qu i).toNat ≤ 30 := by
  have hv := fun (c : Nat) (hc : c < 256) (hle : sCo s c ≤ sCo s (qu i).toNat) => zB_vis h (b := sCo s (qu i).toNat) (h.2.2.1 i hi).2.2.2 (fun q hq hlt => by
    rcases Nat.lt_or_ge q i with h' | h'
    · exact h'
    · have := h.2.2.2.2.1 i q h' hq
      omega) (sCo s c).toNat c hc (by have := sCo_r (s := s) (c := c); omega) hle
  obtain ⟨h1, h2, h3, h4, h5, h6, h7, h8⟩ := h
  obtain ⟨u0, u1, u2, u3⟩ := h3 i hi
  have hbr := zbs_or (c := (qu i).toNat) (d := d) (by omega) hd
  have h30 := sCo_30 (s := s) (c := (qu i).toNat) (by omega) u3
  have hle := sCo_b (s := s) (c := (qu i).toNat) (d := d) (by omega) hd hb (by omega)
  have hgt : sCo s (qu i).toNat < sCo s (zbs (qu i).toNat d).toNat := by
    rcases Int.lt_or_le (sCo s (qu i).toNat) (sCo s (zbs (qu i).toNat d).toNat) with h' | h'
    · exact h'
    · have := hv (zbs (qu i).toNat d).toNat (by omega) h'
      omega
  have hr0 := sCo_r (s := s) (c := (qu i).toNat)
  generalize hbb : zbs (qu i).toNat d = b at *
  obtain ⟨c, rfl⟩ : ∃ c : Nat, b = c := ⟨b.toNat, by omega⟩
  rw [Int.toNat_natCast] at *
  have hcc : c < 256 := by omega
  have hn : n < 256 := by
    have : zsum 256 (fun x => (if co x < 99 then 1 else 0) + (if x = c then 1 else 0)) ≤ ((256 : Nat) : Int) * 1 := zsum_le (fun x _ => by
      by_cases e : x = c
      · subst e; rw [if_neg (by omega), if_pos rfl]; omega
      · rw [if_neg e]; split <;> omega)
    rw [zsum_add, zsum_one hcc] at this
    omega
  have qold : ∀ q, q < n → zup qu n (c : Int) q = qu q := fun q hq => zup_ne (by omega)
  have qnew : zup qu n (c : Int) n = c := zup_eq
  have cold : ∀ x, x ≠ c → zup co c (co (qu i).toNat + 1) x = co x := fun x hx => zup_ne hx
  have cnew : zup co c (co (qu i).toNat + 1) c = co (qu i).toNat + 1 := zup_eq
  have qne : ∀ q, q < n → (qu q).toNat ≠ c := by
    intro q hq e
    have := (h3 q hq).2.2
    rw [e] at this
    omega
  refine ⟨⟨?_, by omega, ?_, ?_, ?_, ?_, ?_, ?_⟩, hn, by omega, by omega⟩
  · rw [zsum_upd (c := c) (f := fun x => if co x < 99 then 1 else 0) hcc (fun x _ hx => by rw [cold x hx])]
    rw [cnew, ← h1, if_neg (by omega), if_pos (by omega)]
    omega
  · intro q hq
    rcases Nat.lt_or_ge q n with h' | h'
    · rw [qold q h', cold _ (qne q h')]
      exact h3 q h'
    · have : q = n := by omega
      subst this
      rw [qnew, Int.toNat_natCast, cnew]
      omega
  · intro x hx
    by_cases e : x = c
    · subst e
      rw [cnew]
      exact Or.inr ⟨by omega, n, by omega, qnew⟩
    · rw [cold x e]
      rcases h4 x hx with h9 | ⟨h9, q, hq, e'⟩
      · exact Or.inl h9
      · exact Or.inr ⟨h9, q, by omega, by rw [qold q hq]; exact e'⟩
  · intro p q hpq hq
    rcases Nat.lt_or_ge q n with h' | h'
    · rw [qold q h', qold p (by omega)]
      exact h5 p q hpq h'
    · have : q = n := by omega
      subst this
      rw [qnew, Int.toNat_natCast]
      rcases Nat.lt_or_ge p q with h'' | h''
      · rw [qold p h'']
        have := h6 p h'' hi
        omega
      · have : p = q := by omega
        subst this
        rw [qnew, Int.toNat_natCast]
        omega
  · intro q hq _
    rw [qold i hi]
    rcases Nat.lt_or_ge q n with h' | h'
    · rw [qold q h']
      exact h6 q h' hi
    · have : q = n := by omega
      subst this
      rw [qnew, Int.toNat_natCast]
      omega
  · intro p e hp he
    rw [qold p (by omega)]
    rcases h7 p e hp he with h' | h'
    · exact Or.inl h'
    · refine Or.inr ?_
      by_cases e2 : (zbs (qu p).toNat e).toNat = c
      · rw [e2, cnew]; omega
      · rw [cold _ e2]; exact h'
  · intro x hx hs
    by_cases e : x = c
    · subst e; rw [cnew]; omega
    · rw [cold x e]; exact h8 x hx hs
theorem zB_nxt {s : Nat → Bool} {co qu : Nat → Int} {n i : Nat} (h : zBq s co qu n i) (hi : i < n) (hd : ∀ d, d < 4 → zbs (qu i).toNat d = -1 ∨ co (zbs (qu i).toNat d).toNat < 99) : zBq s co qu n (i + 1) := by
  obtain ⟨h1, h2, h3, h4, h5, h6, h7, h8⟩ := h
  refine ⟨h1, by omega, h3, h4, h5, ?_, ?_, h8⟩
  · intro q hq hi'
    have := h6 q hq hi
    have := h5 i (i + 1) (by omega) hi'
    omega
  · intro p d hp hd'
    rcases Nat.lt_or_ge p i with h' | h'
    · exact h7 p d h' hd'
    · have : p = i := by omega
      subst this
      exact hd d hd'
theorem zB_end {s : Nat → Bool} {co qu : Nat → Int} {n : Nat} (h : zBq s co qu n n) : ∀ c, c < 256 → co c = sCo s c := by
  intro c hc
  have hr := sCo_r (s := s) (c := c)
  rcases h.2.2.2.1 c hc with h' | ⟨_, q, hq, e⟩
  · rcases Int.lt_or_le (sCo s c) 99 with h'' | h''
    · have := zB_vis h (b := 98) (by omega) (fun q hq _ => hq) (sCo s c).toNat c hc (by omega) (by omega)
      omega
    · omega
  · have := (h.2.2.1 q hq).2.2.1
    rw [e, Int.toNat_natCast] at this
    exact this
theorem zB_n {s : Nat → Bool} {co qu : Nat → Int} {n i : Nat} (h : zBq s co qu n i) : n ≤ 256 := by
  have : zsum 256 (fun c => if co c < 99 then (1 : Int) else 0) ≤ ((256 : Nat) : Int) * 1 := zsum_le (fun x _ => by show (if _ then (1 : Int) else 0) ≤ 1; split <;> omega)
  have := h.1
  omega

/-! more of the calculus -/
section zO2
variable {α β γ δ ε τ σ ρ : Type} {P : τ → Prop}
theorem zO_brp {a b : Int} {c : Prop} {hdec : Decidable c} {X Y : Option τ} (ha : zr a) (hb : zr b) (hc : c) (h : zO X P) : zO (zbr a b c X Y) P := zO_br ha hb (fun _ => h) (fun hn => absurd hc hn)
theorem zO_brn {a b : Int} {c : Prop} {hdec : Decidable c} {X Y : Option τ} (ha : zr a) (hb : zr b) (hc : ¬ c) (h : zO Y P) : zO (zbr a b c X Y) P := zO_br ha hb (fun hn => absurd hn hc) (fun _ => h)
theorem zO_blp {a b : Int} {c : Prop} {hdec : Decidable c} {X Y : Option τ} (ha : zrl a) (hb : zrl b) (hc : c) (h : zO X P) : zO (zbl a b c X Y) P := zO_bl ha hb (fun _ => h) (fun hn => absurd hc hn)
theorem zO_bln {a b : Int} {c : Prop} {hdec : Decidable c} {X Y : Option τ} (ha : zrl a) (hb : zrl b) (hc : ¬ c) (h : zO Y P) : zO (zbl a b c X Y) P := zO_bl ha hb (fun hn => absurd hn hc) (fun _ => h)
theorem zO_ifp {c : Prop} {hdec : Decidable c} {X Y : Option τ} (hc : c) (h : zO X P) : zO (if c then X else Y) P := by rw [if_pos hc]; exact h
theorem zO_ifn {c : Prop} {hdec : Decidable c} {X Y : Option τ} (hc : ¬ c) (h : zO Y P) : zO (if c then X else Y) P := by rw [if_neg hc]; exact h
theorem zO_b0 {o : Option Unit} {X : Option τ} (h : zO o (fun _ => zO X P)) : zO (zb0 o X) P := zO_b1 h
theorem zO_bde {o : Option (α × β)} {X : α → β → Option τ} {a : α} {b : β} (e : o = some (a, b)) (k : zO (X a b) P) : zO (zbd o X) P := zO_bd ⟨_, e, k⟩
/-- the one answer -/
theorem zO_get {o : Option α} {a : α} (h : zO o (fun x => x = a)) : o = some a := by
  obtain ⟨x, e, rfl⟩ := h
  exact e
theorem zO_is {o : Option α} {a : α} (h : o = some a) : zO o (fun x => x = a) := ⟨a, h, rfl⟩
theorem zO_and {o : Option α} {P Q : α → Prop} (h : zO o P) (h' : zO o Q) : zO o (fun a => P a ∧ Q a) := by
  obtain ⟨a, e, p⟩ := h
  obtain ⟨b, e', q⟩ := h'
  rw [e] at e'
  cases e'
  exact ⟨a, e, p, q⟩
/-- a loop that counts up from a to N, the next step named -/
theorem zO_up {F : σ → Option (σ ⊕ τ)} (S : Nat → σ) (N : Nat) {t : τ} (hs : ∀ j, j < N → F (S j) = some (.inl (S (j + 1)))) (he : F (S N) = some (.inr t)) (hN : N < 900000) : ∀ a, a ≤ N → zwh F zfu (S a) = some t := by
  intro a ha
  have key : ∀ d f, d < f → d ≤ N → zwh F f (S (N - d)) = some t := by
    intro d
    induction d with
    | zero =>
      intro f hf _
      obtain ⟨g, rfl⟩ : ∃ g, f = g + 1 := ⟨f - 1, by omega⟩
      rw [Nat.sub_zero, zwh_s, he]
    | succ d ih =>
      intro f hf hd
      obtain ⟨g, rfl⟩ : ∃ g, f = g + 1 := ⟨f - 1, by omega⟩
      rw [zwh_s, hs (N - (d + 1)) (by omega)]
      have e : N - (d + 1) + 1 = N - d := by omega
      rw [e]
      exact ih g (by omega) (by omega)
  have h := key (N - a) zfu (by unfold zfu; omega) (by omega)
  rw [show N - (N - a) = a by omega] at h
  exact h
/-- a loop that counts up and may end early: at the first that is so -/
theorem zO_find {F : Int → Option (Int ⊕ τ)} (N : Nat) (p : Nat → Prop) (r : Nat → τ) {t : τ} (hn : ∀ j : Nat, j < N → ¬ p j → F j = some (.inl ((j + 1 : Nat) : Int))) (hp : ∀ j : Nat, j < N → p j → F j = some (.inr (r j))) (he : F (N : Int) = some (.inr t)) (hN : N < 900000) (a : Nat) (ha : a ≤ N) : zO (zwh F zfu (a : Int)) (fun x => (∃ j, a ≤ j ∧ j < N ∧ p j ∧ (∀ l, a ≤ l → l < j → ¬ p l) ∧ x = r j) ∨ ((∀ l, a ≤ l → l < N → ¬ p l) ∧ x = t)) := by
  refine zO_for (fun s : Int => s) N (fun j _ => a ≤ j ∧ ∀ l, a ≤ l → l < j → ¬ p l) ?_ ?_ hN a ha rfl ⟨Nat.le_refl a, fun l h1 h2 => by omega⟩
  · intro j s hj hc hI
    have hc' : s = (j : Int) := hc
    subst hc'
    by_cases h : p j
    · exact ⟨_, hp j hj h, Or.inl ⟨j, hI.1, hj, h, hI.2, rfl⟩⟩
    · refine ⟨_, hn j hj h, ?_⟩
      refine show (((j + 1 : Nat) : Int) = ((j + 1 : Nat) : Int)) ∧ _ from ⟨rfl, by have := hI.1; omega, ?_⟩
      intro l h1 h2
      rcases Nat.lt_or_ge l j with h3 | h3
      · exact hI.2 l h1 h3
      · have : l = j := by omega
        subst this; exact h
  · intro s hc hI
    have hc' : s = (N : Int) := hc
    subst hc'
    exact ⟨_, he, Or.inr ⟨hI.2, rfl⟩⟩
end zO2
/-! sums -/
def zsum : Nat → (Nat → Int) → Int
  | 0, _ => 0
  | n + 1, f => zsum n f + f n
theorem zsum_s {n : Nat} {f : Nat → Int} : zsum (n + 1) f = zsum n f + f n := rfl
theorem zsum_congr {n : Nat} {f g : Nat → Int} (h : ∀ j, j < n → f j = g j) : zsum n f = zsum n g := by
  induction n with
  | zero => rfl
  | succ n ih => rw [zsum_s, zsum_s, ih (fun j hj => h j (by omega)), h n (by omega)]
theorem zsum_zero {n : Nat} {f : Nat → Int} (h : ∀ j, j < n → f j = 0) : zsum n f = 0 := by
  induction n with
  | zero => rfl
  | succ n ih => rw [zsum_s, ih (fun j hj => h j (by omega)), h n (by omega)]; rfl
theorem zsum_add {n : Nat} {f g : Nat → Int} : zsum n (fun j => f j + g j) = zsum n f + zsum n g := by
  induction n with
  | zero => rfl
  | succ n ih => rw [zsum_s, zsum_s, zsum_s, ih]; omega
theorem zsum_mul {n : Nat} {f : Nat → Int} {c : Int} : zsum n (fun j => c * f j) = c * zsum n f := by
  induction n with
  | zero => simp [zsum]
  | succ n ih => rw [zsum_s, zsum_s, ih, Int.mul_add]
theorem zsum_nn {n : Nat} {f : Nat → Int} (h : ∀ j, j < n → 0 ≤ f j) : 0 ≤ zsum n f := by
  induction n with
  | zero => exact Int.le_refl 0
  | succ n ih => rw [zsum_s]; have := ih (fun j hj => h j (by omega)); have := h n (by omega); omega
theorem zsum_le {n : Nat} {f : Nat → Int} {b : Int} (h : ∀ j, j < n → f j ≤ b) : zsum n f ≤ n * b := by
  induction n with
  | zero => simp [zsum]
  | succ n ih =>
    rw [zsum_s]
    have h1 := ih (fun j hj => h j (by omega))
    have h2 := h n (by omega)
    have h3 : ((n + 1 : Nat) : Int) * b = n * b + b := by rw [Int.natCast_add, Int.add_mul]; simp
    omega
theorem zsum_mono {n : Nat} {f g : Nat → Int} (h : ∀ j, j < n → f j ≤ g j) : zsum n f ≤ zsum n g := by
  induction n with
  | zero => exact Int.le_refl 0
  | succ n ih => rw [zsum_s, zsum_s]; have := ih (fun j hj => h j (by omega)); have := h n (by omega); omega
theorem zsum_one {n c : Nat} {v : Int} (h : c < n) : zsum n (fun j => if j = c then v else 0) = v := by
  induction n with
  | zero => omega
  | succ n ih =>
    rw [zsum_s]
    by_cases e : c = n
    · subst e
      rw [if_pos rfl, zsum_zero (fun j hj => if_neg (by omega))]; omega
    · rw [if_neg (fun h => e h.symm), ih (by omega)]; omega
theorem zsum_at {n c : Nat} {f : Nat → Int} (h : c < n) (hf : ∀ j, j < n → 0 ≤ f j) : f c ≤ zsum n f := by
  induction n with
  | zero => omega
  | succ n ih =>
    rw [zsum_s]
    by_cases e : c = n
    · subst e; have := zsum_nn (n := c) (f := f) (fun j hj => hf j (by omega)); omega
    · have := ih (by omega) (fun j hj => hf j (by omega)); have := hf n (by omega); omega
theorem zsum_upd {n c : Nat} {f g : Nat → Int} (h : c < n) (hg : ∀ j, j < n → j ≠ c → g j = f j) : zsum n g = zsum n f - f c + g c := by
  induction n with
  | zero => omega
  | succ n ih =>
    rw [zsum_s, zsum_s]
    by_cases e : c = n
    · subst e; rw [zsum_congr (fun j hj => hg j (by omega) (by omega))]; omega
    · rw [ih (by omega) (fun j hj => hg j (by omega)), hg n (by omega) (fun h => e h.symm)]; omega
theorem zsum_swap {n m : Nat} {f : Nat → Nat → Int} : zsum n (fun a => zsum m (fun b => f a b)) = zsum m (fun b => zsum n (fun a => f a b)) := by
  induction n with
  | zero => exact (zsum_zero (fun _ _ => rfl)).symm
  | succ n ih =>
    rw [zsum_s, ih, ← zsum_add]
    rfl
theorem zsum_app {n m : Nat} {f : Nat → Int} : zsum (n + m) f = zsum n f + zsum m (fun j => f (n + j)) := by
  induction m with
  | zero => simp [zsum]
  | succ m ih => rw [← Nat.add_assoc, zsum_s, zsum_s, ih]; omega
/-- min 99 of a sum -/
theorem zsum_cap {n : Nat} {f : Nat → Int} {k : Int} (h : ∀ j, j < n → 0 ≤ f j) (hk : 0 ≤ k) : zmin (k + zsum n (fun j => zmin (f j) 99)) 99 = zmin (k + zsum n f) 99 := by
  have key : zsum n (fun j => zmin (f j) 99) = zsum n f ∨ (99 ≤ zsum n (fun j => zmin (f j) 99) ∧ 99 ≤ zsum n f) := by
    induction n with
    | zero => exact Or.inl rfl
    | succ n ih =>
      have h1 := ih (fun j hj => h j (by omega))
      have h2 := h n (by omega)
      have h3 := zsum_nn (n := n) (f := f) (fun j hj => h j (by omega))
      have h4 : 0 ≤ zsum n (fun j => zmin (f j) 99) := zsum_nn (fun j hj => by have := h j (by omega); unfold zmin; omega)
      rw [zsum_s, zsum_s]
      unfold zmin at *
      omega
  unfold zmin at *
  omega
/-! sums by a loop -/
section zSm
variable {α : Type}
theorem zO_sum {F : Int → Int → Option ((Int × Int) ⊕ Int)} {N : Nat} (g : Nat → Int) (hs : ∀ (a : Int) (j : Nat), j < N → F (a + zsum j g) j = some (.inl (a + zsum j g + g j, ((j + 1 : Nat) : Int)))) (he : ∀ a, F a N = some (.inr a)) (hN : N < 900000) (a : Int) : zw2 F zfu a 0 = some (a + zsum N g) := by
  have h := zO_up (F := fun t => F t.1 t.2) (fun j => (a + zsum j g, (j : Int))) N (t := a + zsum N g) (fun j hj => by
    rw [hs a j hj, zsum_s, Int.add_assoc]) (he _) hN 0 (Nat.zero_le _)
  simpa [zw2, zsum] using h
end zSm

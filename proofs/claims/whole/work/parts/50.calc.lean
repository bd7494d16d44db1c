/-! the numbers: a calculus for the functions -/
def zO {α : Type} (o : Option α) (P : α → Prop) : Prop := ∃ a, o = some a ∧ P a
section zOs
variable {α β γ δ ε τ σ ρ : Type} {P : τ → Prop}
theorem zO_some {a : τ} (h : P a) : zO (some a) P := ⟨a, rfl, h⟩
theorem zO_mono {o : Option τ} {Q : τ → Prop} (h : zO o Q) (hq : ∀ a, Q a → P a) : zO o P := by
  obtain ⟨a, h1, h2⟩ := h
  exact ⟨a, h1, hq a h2⟩
theorem zO_eq {o : Option τ} {a : τ} (h : o = some a) (hp : P a) : zO o P := ⟨a, h, hp⟩
theorem zO_gd {c : Prop} {hdec : Decidable c} {X : Option τ} (hc : c) (h : zO X P) : zO (zgd c X) P := by
  unfold zgd
  rw [if_pos hc]
  exact h
theorem zO_br {a b : Int} {c : Prop} {hdec : Decidable c} {X Y : Option τ} (ha : zr a) (hb : zr b) (h1 : c → zO X P) (h2 : ¬ c → zO Y P) : zO (zbr a b c X Y) P := by
  unfold zbr
  rw [if_pos ⟨ha, hb⟩]
  by_cases hc : c
  · rw [if_pos hc]; exact h1 hc
  · rw [if_neg hc]; exact h2 hc
theorem zO_bl {a b : Int} {c : Prop} {hdec : Decidable c} {X Y : Option τ} (ha : zrl a) (hb : zrl b) (h1 : c → zO X P) (h2 : ¬ c → zO Y P) : zO (zbl a b c X Y) P := by
  unfold zbl
  rw [if_pos ⟨ha, hb⟩]
  by_cases hc : c
  · rw [if_pos hc]; exact h1 hc
  · rw [if_neg hc]; exact h2 hc
theorem zO_if {c : Prop} {hdec : Decidable c} {X Y : Option τ} (h1 : c → zO X P) (h2 : ¬ c → zO Y P) : zO (if c then X else Y) P := by
  by_cases hc : c
  · rw [if_pos hc]; exact h1 hc
  · rw [if_neg hc]; exact h2 hc
theorem zO_lt {e : α} {X : α → Option τ} (h : zO (X e) P) : zO (zlt e X) P := h
theorem zO_lte {e : α} {X : α → Option τ} (h : ∀ x, x = e → zO (X x) P) : zO (zlt e X) P := h e rfl
theorem zO_b1 {o : Option α} {X : α → Option τ} (h : zO o (fun a => zO (X a) P)) : zO (zb1 o X) P := by
  obtain ⟨a, e, q⟩ := h
  rw [e]
  exact q
theorem zO_b1q {o : Option α} {X : α → Option τ} {Q : α → Prop} (h : zO o Q) (k : ∀ a, Q a → zO (X a) P) : zO (zb1 o X) P := zO_b1 (zO_mono h k)
theorem zO_b1e {o : Option α} {X : α → Option τ} {a : α} (e : o = some a) (k : zO (X a) P) : zO (zb1 o X) P := zO_b1 ⟨a, e, k⟩
theorem zO_bd {o : Option (α × β)} {X : α → β → Option τ} (h : zO o (fun a => zO (X a.1 a.2) P)) : zO (zbd o X) P := by
  obtain ⟨a, e, q⟩ := h
  rw [e]
  exact q
theorem zO_bdq {o : Option (α × β)} {X : α → β → Option τ} {Q : α × β → Prop} (h : zO o Q) (k : ∀ a b, Q (a, b) → zO (X a b) P) : zO (zbd o X) P := zO_bd (zO_mono h (fun a q => k a.1 a.2 q))
theorem zO_s1 {o : Option (α ⊕ ρ)} {Y : ρ → Option τ} {X : α → Option τ} (h : zO o (zEl (fun a => zO (X a) P) (fun r => zO (Y r) P))) : zO (zs1 o Y X) P := by
  obtain ⟨a, e, q⟩ := h
  rw [e]
  cases a with
  | inl a => exact q
  | inr r => exact q
theorem zO_inl {a : α} {I : α → Prop} (h : I a) : zO (some (Sum.inl a)) (zEl I P) := ⟨_, rfl, h⟩
theorem zO_inr {t : τ} {I : α → Prop} (h : P t) : zO (some (Sum.inr t)) (zEl I P) := ⟨_, rfl, h⟩
theorem zO_b2 {o : Option (α × β)} {X : α → β → Option τ} (h : zO o (fun a => zO (X a.1 a.2) P)) : zO (zb2 o X) P := zO_b1 h
theorem zO_b3 {o : Option (α × β × γ)} {X : α → β → γ → Option τ} (h : zO o (fun a => zO (X a.1 a.2.1 a.2.2) P)) : zO (zb3 o X) P := zO_b1 h
theorem zO_b4 {o : Option (α × β × γ × δ)} {X : α → β → γ → δ → Option τ} (h : zO o (fun a => zO (X a.1 a.2.1 a.2.2.1 a.2.2.2) P)) : zO (zb4 o X) P := zO_b1 h
theorem zO_sp0 {o : Option (Unit ⊕ ρ)} {Y : ρ → Option τ} {X : Option τ} (h : zO o (zEl (fun _ => zO X P) (fun r => zO (Y r) P))) : zO (zsp0 o Y X) P := zO_s1 h
theorem zO_sp1 {o : Option (α ⊕ ρ)} {Y : ρ → Option τ} {X : α → Option τ} (h : zO o (zEl (fun a => zO (X a) P) (fun r => zO (Y r) P))) : zO (zsp1 o Y X) P := zO_s1 h
theorem zO_sp2 {o : Option ((α × β) ⊕ ρ)} {Y : ρ → Option τ} {X : α → β → Option τ} (h : zO o (zEl (fun a => zO (X a.1 a.2) P) (fun r => zO (Y r) P))) : zO (zsp2 o Y X) P := zO_s1 h
theorem zO_sp3 {o : Option ((α × β × γ) ⊕ ρ)} {Y : ρ → Option τ} {X : α → β → γ → Option τ} (h : zO o (zEl (fun a => zO (X a.1 a.2.1 a.2.2) P) (fun r => zO (Y r) P))) : zO (zsp3 o Y X) P := zO_s1 h
theorem zEl_mono {I J : α → Prop} {P Q : ρ → Prop} {u : α ⊕ ρ} (h : zEl I P u) (h1 : ∀ a, I a → J a) (h2 : ∀ a, P a → Q a) : zEl J Q u := by
  cases u with
  | inl a => exact h1 a h
  | inr a => exact h2 a h
/-- a loop with a measure -/
theorem zO_wh {F : σ → Option (σ ⊕ τ)} (Inv : σ → Prop) (μ : σ → Nat) (h : ∀ s, Inv s → zO (F s) (zEl (fun s' => Inv s' ∧ μ s' < μ s) P)) : ∀ n s, Inv s → μ s < n → zO (zwh F n s) P := by
  intro n
  induction n with
  | zero => intro s _ hm; omega
  | succ n ih =>
    intro s hi hm
    obtain ⟨u, e, hu⟩ := h s hi
    rw [zwh_s, e]
    cases u with
    | inl s' =>
      have h1 : Inv s' ∧ μ s' < μ s := hu
      exact ih s' h1.1 (by have := h1.2; omega)
    | inr t => exact ⟨t, rfl, hu⟩
/-- a loop that counts up to N -/
theorem zO_for {F : σ → Option (σ ⊕ τ)} (cnt : σ → Int) (N : Nat) (I : Nat → σ → Prop)
    (hs : ∀ (j : Nat) s, j < N → cnt s = j → I j s → zO (F s) (zEl (fun s' => cnt s' = ((j + 1 : Nat) : Int) ∧ I (j + 1) s') P))
    (he : ∀ s, cnt s = N → I N s → zO (F s) (zEl (fun _ => False) P)) (hN : N < 900000) {s : σ} (a : Nat) (ha : a ≤ N) (hc : cnt s = a) (h0 : I a s) : zO (zwh F zfu s) P := by
  refine zO_wh (fun s => ∃ j : Nat, j ≤ N ∧ cnt s = j ∧ I j s) (fun s => N - (cnt s).toNat + 1) ?_ zfu s ⟨a, ha, hc, h0⟩ ?_
  · rintro s ⟨j, hj, hcj, hI⟩
    rcases Nat.lt_or_ge j N with h | h
    · refine zO_mono (hs j s h hcj hI) (fun u hu => ?_)
      cases u with
      | inl s' =>
        have h1 : cnt s' = ((j + 1 : Nat) : Int) ∧ I (j + 1) s' := hu
        refine show (∃ j : Nat, j ≤ N ∧ cnt s' = j ∧ I j s') ∧ _ from ⟨⟨j + 1, h, h1.1, h1.2⟩, ?_⟩
        rw [h1.1, hcj]
        simp only [Int.toNat_natCast]
        omega
      | inr t => exact hu
    · have e : j = N := by omega
      subst e
      refine zO_mono (he s hcj hI) (fun u hu => ?_)
      cases u with
      | inl s' => exact absurd hu (fun h => h)
      | inr t => exact hu
  · rw [hc]
    simp only [Int.toNat_natCast]
    unfold zfu
    omega
/-- a loop that counts down to 0 and ends below it -/
theorem zO_down {F : σ → Option (σ ⊕ τ)} (cnt : σ → Int) (N : Nat) (I : Nat → σ → Prop)
    (hs : ∀ (j : Nat) s, j < N → cnt s = j → I (j + 1) s → zO (F s) (zEl (fun s' => cnt s' = (j : Int) - 1 ∧ I j s') P))
    (he : ∀ s, cnt s = -1 → I 0 s → zO (F s) (zEl (fun _ => False) P)) (hN : N < 900000) {s : σ} (hc : cnt s = (N : Int) - 1) (h0 : I N s) : zO (zwh F zfu s) P := by
  refine zO_wh (fun s => ∃ j : Nat, j ≤ N ∧ cnt s = (j : Int) - 1 ∧ I j s) (fun s => (cnt s + 1).toNat + 1) ?_ zfu s ⟨N, Nat.le_refl N, hc, h0⟩ ?_
  · rintro s ⟨j, hj, hcj, hI⟩
    rcases Nat.eq_zero_or_pos j with h | h
    · subst h
      refine zO_mono (he s (by rw [hcj]; rfl) hI) (fun u hu => ?_)
      cases u with
      | inl s' => exact absurd hu (fun h => h)
      | inr t => exact hu
    · obtain ⟨i, rfl⟩ : ∃ i, j = i + 1 := ⟨j - 1, by omega⟩
      refine zO_mono (hs i s (by omega) (by rw [hcj]; omega) hI) (fun u hu => ?_)
      cases u with
      | inl s' =>
        have h1 : cnt s' = (i : Int) - 1 ∧ I i s' := hu
        refine show (∃ j : Nat, j ≤ N ∧ cnt s' = (j : Int) - 1 ∧ I j s') ∧ _ from ⟨⟨i, by omega, h1.1, h1.2⟩, ?_⟩
        rw [h1.1, hcj]
        omega
      | inr t => exact hu
  · rw [hc]
    unfold zfu
    omega
end zOs
theorem zb1_some {α τ : Type} {a : α} {X : α → Option τ} : zb1 (some a) X = X a := rfl
theorem zbd_some {α β τ : Type} {a : α} {b : β} {X : α → β → Option τ} : zbd (some (a, b)) X = X a b := rfl
theorem zbr_p {τ : Type} {a b : Int} {c : Prop} {hdec : Decidable c} {X Y : Option τ} (ha : zr a) (hb : zr b) (hc : c) : zbr a b c X Y = X := by
  unfold zbr
  rw [if_pos ⟨ha, hb⟩, if_pos hc]
theorem zbr_n {τ : Type} {a b : Int} {c : Prop} {hdec : Decidable c} {X Y : Option τ} (ha : zr a) (hb : zr b) (hc : ¬ c) : zbr a b c X Y = Y := by
  unfold zbr
  rw [if_pos ⟨ha, hb⟩, if_neg hc]
theorem zgd_p {τ : Type} {c : Prop} {hdec : Decidable c} {X : Option τ} (hc : c) : zgd c X = X := by
  unfold zgd
  rw [if_pos hc]
/-! what stays -/
def zFr (l : List Nat) (M M' : zM) : Prop := ∀ q, q ∉ l → M' q = M q
theorem zFr_refl {l : List Nat} {M : zM} : zFr l M M := fun _ _ => rfl
theorem zFr.tr {l : List Nat} {M M' M'' : zM} (h : zFr l M M') (h' : zFr l M' M'') : zFr l M M'' := fun q hq => (h' q hq).trans (h q hq)
theorem zFr.mono {l l' : List Nat} {M M' : zM} (h : zFr l M M') (hl : ∀ q ∈ l, q ∈ l') : zFr l' M M' := fun q hq => h q (fun hm => hq (hl q hm))
theorem zFr.st {l : List Nat} {M M' : zM} {r s : Nat} {v : Int} (h : zFr l M M') (hr : r ∈ l) : zFr l M (zst M' r s v) := fun q hq => (zst_ne (by intro e; subst e; exact hq hr)).trans (h q hq)
theorem zFr.st1 {l : List Nat} {M : zM} {r s : Nat} {v : Int} (hr : r ∈ l) : zFr l M (zst M r s v) := zFr_refl.st hr
theorem zst_r (M : zM) (r s : Nat) (v : Int) (q j : Nat) : zst M r s v q j = if q = r ∧ j = s then v else M q j := rfl
def zup (f : Nat → Int) (s : Nat) (v : Int) : Nat → Int := fun j => if j = s then v else f j
theorem zst_s {M : zM} {r s : Nat} {v : Int} : zst M r s v r = zup (M r) s v := by
  funext j
  simp [zst, zup]
theorem zup_eq {f : Nat → Int} {s : Nat} {v : Int} : zup f s v s = v := by simp [zup]
theorem zup_ne {f : Nat → Int} {s j : Nat} {v : Int} (h : j ≠ s) : zup f s v j = f j := by simp [zup, h]
theorem zr_of {a : Int} (h1 : -2147483648 ≤ a) (h2 : a ≤ 2147483647) : zr a := ⟨h1, h2⟩

/-! calls that tell -/
def zof (q : Nat) : Nat := if q ≤ 81 then 1 else if q ≤ 85 then 256 else if q = 86 ∨ q = 95 then 80 else if q ≤ 90 then 60 else if q = 91 then 10 else 40
/-- what a call that tells may change -/
def zTd (M M' : zM) : Prop := (∀ q, q ≠ 1 → q ≠ 46 → (q < 4 ∨ 19 < q) → q ≠ 51 → (q < 77 ∨ 96 < q) → M' q = M q) ∧ (∀ x, x ≠ 14 → M' 1 x = M 1 x) ∧ (∀ x, x ≠ 6 → M' 46 x = M 46 x) ∧ (∀ q x, 78 ≤ q → q ≤ 96 → zof q ≤ x → M' q x = M q x)
theorem zTd.rf {M : zM} : zTd M M := ⟨fun _ _ _ _ _ _ => rfl, fun _ _ => rfl, fun _ _ => rfl, fun _ _ _ _ _ => rfl⟩
theorem zTd.up {M M' : zM} {q j : Nat} {v : Int} (h : zTd M M') (hq : (4 ≤ q ∧ q ≤ 19) ∨ (q = 1 ∧ j = 14) ∨ (q = 46 ∧ j = 6) ∨ q = 51 ∨ q = 77 ∨ (78 ≤ q ∧ q ≤ 96 ∧ j < zof q)) : zTd M (zst M' q j v) := by
  obtain ⟨h1, h2, h3, h4⟩ := h
  refine ⟨?_, ?_, ?_, ?_⟩
  · intro p a b c d e
    rw [zst_ne (by omega)]
    exact h1 p a b c d e
  · intro x hx
    by_cases hp : 1 = q ∧ x = j
    · omega
    · rw [← h2 x hx]
      unfold zst
      rw [if_neg hp]
  · intro x hx
    by_cases hp : 46 = q ∧ x = j
    · omega
    · rw [← h3 x hx]
      unfold zst
      rw [if_neg hp]
  · intro p x a b c
    by_cases hp : p = q ∧ x = j
    · obtain ⟨rfl, rfl⟩ := hp
      exfalso
      rcases hq with hq | hq | hq | hq | hq | hq <;> omega
    · rw [← h4 p x a b c]
      unfold zst
      rw [if_neg hp]
theorem zTd.ua {M M' : zM} {q j : Nat} {v : Int} (h : zTd M M') (h1 : 4 ≤ q) (h2 : q ≤ 19) : zTd M (zst M' q j v) := h.up (Or.inl ⟨h1, h2⟩)
theorem zTd.ub {M M' : zM} {q j : Nat} {v : Int} (h : zTd M M') (h1 : 78 ≤ q) (h2 : q ≤ 96) (h3 : j < zof q) : zTd M (zst M' q j v) := h.up (by omega)
theorem zTd.uf {M M' : zM} {v : Int} (h : zTd M M') : zTd M (zst M' 46 6 v) := h.up (by omega)
theorem zTd.ug {M M' : zM} {v : Int} (h : zTd M M') : zTd M (zst M' 1 14 v) := h.up (by omega)
theorem zTd.ur {M M' : zM} {j : Nat} {v : Int} (h : zTd M M') : zTd M (zst M' 51 j v) := h.up (by omega)
theorem zTd.us {M M' : zM} {j : Nat} {v : Int} (h : zTd M M') : zTd M (zst M' 77 j v) := h.up (by omega)
theorem zTo.fr2 {T b : Nat} {M M' : zM} (hb : 1 ≤ b) (h : zTo T b M) (h1 : ∀ q, T ≤ q → q ≤ T + 15 → M' q = M q) (h2 : ∀ q x, 78 ≤ q → q ≤ 96 → zof q ≤ x → M' q x = M q x) : zTo T b M' := by
  have e0 := h1 T (by omega) (by omega)
  have e : ∀ n, n ≤ 15 → M' (T + n) = M (T + n) := fun n hn => h1 (T + n) (by omega) (by omega)
  have f1 : ∀ q, 78 ≤ q → q ≤ 81 → M' q b = M q b := fun q x y => h2 q b x (by omega) (by unfold zof; rw [if_pos y]; exact hb)
  have f2 : ∀ q c, 82 ≤ q → q ≤ 85 → M' q (256 * b + c) = M q (256 * b + c) := fun q c x y => h2 q _ (by omega) (by omega) (by unfold zof; rw [if_neg (by omega), if_pos y]; omega)
  have f3 : ∀ q d, q = 86 ∨ q = 95 → M' q (80 * b + d) = M q (80 * b + d) := fun q c x => h2 q _ (by omega) (by omega) (by unfold zof; rw [if_neg (by omega), if_neg (by omega), if_pos x]; omega)
  have f4 : ∀ q d, 87 ≤ q → q ≤ 90 → M' q (60 * b + d) = M q (60 * b + d) := fun q c x y => h2 q _ (by omega) (by omega) (by unfold zof; rw [if_neg (by omega), if_neg (by omega), if_neg (by omega), if_pos y]; omega)
  have f5 : ∀ d, M' 91 (10 * b + d) = M 91 (10 * b + d) := fun d => h2 91 _ (by omega) (by omega) (by show 10 ≤ _; omega)
  have f6 : ∀ q d, (92 ≤ q ∧ q ≤ 94) ∨ q = 96 → M' q (40 * b + d) = M q (40 * b + d) := fun q c x => h2 q _ (by omega) (by omega) (by unfold zof; rw [if_neg (by omega), if_neg (by omega), if_neg (by omega), if_neg (by omega), if_neg (by omega)]; omega)
  unfold zTo at *
  simp only [e0, e 1 (by omega), e 2 (by omega), e 3 (by omega), e 4 (by omega), e 5 (by omega), e 6 (by omega), e 7 (by omega), e 8 (by omega), e 9 (by omega), e 10 (by omega), e 11 (by omega), e 12 (by omega), e 13 (by omega), e 14 (by omega), e 15 (by omega), f1 78 (by omega) (by omega), f1 79 (by omega) (by omega), f1 80 (by omega) (by omega), f1 81 (by omega) (by omega), fun c => f2 82 c (by omega) (by omega), fun c => f2 83 c (by omega) (by omega), fun c => f2 84 c (by omega) (by omega), fun c => f2 85 c (by omega) (by omega), fun c => f3 86 c (by omega), fun c => f3 95 c (by omega), fun c => f4 87 c (by omega) (by omega), fun c => f4 88 c (by omega) (by omega), fun c => f4 89 c (by omega) (by omega), fun c => f4 90 c (by omega) (by omega), f5, fun c => f6 92 c (by omega), fun c => f6 93 c (by omega), fun c => f6 94 c (by omega), fun c => f6 96 c (by omega)]
  exact h
theorem zInv.td {i L : Nat} {M M' : zM} {E : zE} (h : zInv i L M E) (d : zTd M M') (ht : zTo 4 0 M') (hr : ∀ r, r < 3 → M' 51 r = M' 77 r) (hc : zCa M' E) (hw : zWy M' E) : zInv i L M' E := by
  obtain ⟨⟨s1, s2, s3, a1, a2, a3, a4, a5, a6, a7, a8⟩, _, _⟩ := h
  obtain ⟨d1, d2, d3, d4⟩ := d
  have hL := s2.1
  refine ⟨⟨s1, s2.fr (fun q x y => d1 q (by omega) (by omega) (by omega) (by omega) (by omega)) (fun q x y => d1 q (by omega) (by omega) (by omega) (by omega) (by omega)) (d2 10 (by omega)) (d2 11 (by omega)), ht, ⟨a1.1, fun j x y => by rw [d1 20 (by omega) (by omega) (by omega) (by omega) (by omega)]; exact a1.2 j x y⟩, by rw [d2 13 (by omega)]; exact a2, by rw [d1 76 (by omega) (by omega) (by omega) (by omega) (by omega)]; exact a3, ?_, hr, ?_, ?_, ?_⟩, hc, hw⟩
  · intro j hj
    rw [d1 20 (by omega) (by omega) (by omega) (by omega) (by omega)]
    exact ⟨(a4 j hj).1, (a4 j hj).2.fr2 (by omega) (fun q x y => d1 q (by omega) (by omega) (by omega) (by omega) (by omega)) d4⟩
  · rw [d1 2 (by omega) (by omega) (by omega) (by omega) (by omega), d1 76 (by omega) (by omega) (by omega) (by omega) (by omega)]; exact a6
  · intro j hj
    rw [d1 3 (by omega) (by omega) (by omega) (by omega) (by omega), d1 108 (by omega) (by omega) (by omega) (by omega) (by omega)]
    exact a7 j hj
  · rw [d2 12 (by omega), d1 76 (by omega) (by omega) (by omega) (by omega) (by omega)]; exact a8
/-- the cache stays, where the heights do -/
theorem zCa.td {M M' : zM} {E : zE} (h : zCa M E) (d : zTd M M') (h0 : M' 1 14 = M 1 14) (h1 : M' 5 = M 5) (h2 : M' 18 = M 18) : zCa M' E := h.fr h0 (fun q hq => by
  by_cases h5 : q = 5
  · rw [h5]; exact h1
  · by_cases h6 : q = 18
    · rw [h6]; exact h2
    · exact d.1 q (by omega) (by omega) (by omega) (by omega) (by omega))
theorem zCa.st {M M' : zM} {E : zE} (h : zCa M E) (d : zTd M M') (h0 : M' 1 14 = 1) : zCa M' E := ⟨by rw [d.1 35 (by omega) (by omega) (by omega) (by omega) (by omega)]; exact h.1, Or.inl h0⟩
theorem zWy.td {M M' : zM} {E : zE} (h : zWy M E) (d : zTd M M') (h0 : M' 46 6 = M 46 6) (h3 : M' 4 18 = M 4 18) (h4 : ∀ q, q = 5 ∨ q = 6 ∨ q = 7 ∨ q = 8 ∨ q = 13 ∨ q = 18 → M' q = M q) : zWy M' E := h.fr (by
  funext x
  by_cases hx : x = 6
  · rw [hx]; exact h0
  · exact d.2.2.1 x hx) (d.1 47 (by omega) (by omega) (by omega) (by omega) (by omega)) h3 h4
/-! refused -/
theorem g10_refuse {k : zK} {p : Int} {M : zM} (h : 0 ≤ p ∧ p < 3) : g_X10_refuse k p M = some (zst M 51 p.toNat (M 51 p.toNat + 1), -1) := by
  unfold g_X10_refuse
  apply zO_get
  repeat' (first | (with_reducible refine zO_lt ?_) | (with_reducible refine zO_gd ?hc ?_; case hc => (first | omega | (simp (disch := omega) only [zst_ne, zst_s, zup_eq, zup_ne, Int.toNat_natCast, not_true_eq_false, not_false_eq_true, true_or, or_true, true_and, and_true]; first | done | omega) | with_reducible exact True.intro)) | (with_reducible refine zO_brp ?ha ?hb ?hc ?_; (case ha => (first | omega | (simp (disch := omega) only [zst_ne, zst_s, zup_eq, zup_ne, Int.toNat_natCast, not_true_eq_false, not_false_eq_true, true_or, or_true, true_and, and_true]; first | done | omega) | with_reducible exact True.intro)); (case hb => (first | omega | (simp (disch := omega) only [zst_ne, zst_s, zup_eq, zup_ne, Int.toNat_natCast, not_true_eq_false, not_false_eq_true, true_or, or_true, true_and, and_true]; first | done | omega) | with_reducible exact True.intro)); (case hc => (first | omega | (simp (disch := omega) only [zst_ne, zst_s, zup_eq, zup_ne, Int.toNat_natCast, not_true_eq_false, not_false_eq_true, true_or, or_true, true_and, and_true]; first | done | omega) | with_reducible exact True.intro))) | (with_reducible refine zO_brn ?ha ?hb ?hc ?_; (case ha => (first | omega | (simp (disch := omega) only [zst_ne, zst_s, zup_eq, zup_ne, Int.toNat_natCast, not_true_eq_false, not_false_eq_true, true_or, or_true, true_and, and_true]; first | done | omega) | with_reducible exact True.intro)); (case hb => (first | omega | (simp (disch := omega) only [zst_ne, zst_s, zup_eq, zup_ne, Int.toNat_natCast, not_true_eq_false, not_false_eq_true, true_or, or_true, true_and, and_true]; first | done | omega) | with_reducible exact True.intro)); (case hc => (first | omega | (simp (disch := omega) only [zst_ne, zst_s, zup_eq, zup_ne, Int.toNat_natCast, not_true_eq_false, not_false_eq_true, true_or, or_true, true_and, and_true]; first | done | omega) | with_reducible exact True.intro))) | simp (disch := omega) only [zst_ne, zst_s, zup_eq, zup_ne, Int.toNat_natCast, not_true_eq_false, not_false_eq_true, true_or, or_true, true_and, and_true] | (with_reducible refine zO_br ?ha ?hb (fun _ => ?_) (fun _ => ?_); (case ha => (first | omega | (simp (disch := omega) only [zst_ne, zst_s, zup_eq, zup_ne, Int.toNat_natCast, not_true_eq_false, not_false_eq_true, true_or, or_true, true_and, and_true]; first | done | omega) | with_reducible exact True.intro)); (case hb => (first | omega | (simp (disch := omega) only [zst_ne, zst_s, zup_eq, zup_ne, Int.toNat_natCast, not_true_eq_false, not_false_eq_true, true_or, or_true, true_and, and_true]; first | done | omega) | with_reducible exact True.intro))) | (with_reducible refine zO_ifp ?hc ?_; case hc => (first | omega | (simp (disch := omega) only [zst_ne, zst_s, zup_eq, zup_ne, Int.toNat_natCast, not_true_eq_false, not_false_eq_true, true_or, or_true, true_and, and_true]; first | done | omega) | with_reducible exact True.intro)) | (with_reducible refine zO_ifn ?hc ?_; case hc => (first | omega | (simp (disch := omega) only [zst_ne, zst_s, zup_eq, zup_ne, Int.toNat_natCast, not_true_eq_false, not_false_eq_true, true_or, or_true, true_and, and_true]; first | done | omega) | with_reducible exact True.intro)) | fail)
  exact zO_some rfl
theorem g11_refuses {k : zK} {p : Int} {M : zM} (h : 0 ≤ p ∧ p < 3) : g_X11_refuses k p M = some (zst M 77 p.toNat (M 77 p.toNat + 1), -1) := by
  unfold g_X11_refuses
  apply zO_get
  repeat' (first | (with_reducible refine zO_lt ?_) | (with_reducible refine zO_gd ?hc ?_; case hc => (first | omega | (simp (disch := omega) only [zst_ne, zst_s, zup_eq, zup_ne, Int.toNat_natCast, not_true_eq_false, not_false_eq_true, true_or, or_true, true_and, and_true]; first | done | omega) | with_reducible exact True.intro)) | (with_reducible refine zO_brp ?ha ?hb ?hc ?_; (case ha => (first | omega | (simp (disch := omega) only [zst_ne, zst_s, zup_eq, zup_ne, Int.toNat_natCast, not_true_eq_false, not_false_eq_true, true_or, or_true, true_and, and_true]; first | done | omega) | with_reducible exact True.intro)); (case hb => (first | omega | (simp (disch := omega) only [zst_ne, zst_s, zup_eq, zup_ne, Int.toNat_natCast, not_true_eq_false, not_false_eq_true, true_or, or_true, true_and, and_true]; first | done | omega) | with_reducible exact True.intro)); (case hc => (first | omega | (simp (disch := omega) only [zst_ne, zst_s, zup_eq, zup_ne, Int.toNat_natCast, not_true_eq_false, not_false_eq_true, true_or, or_true, true_and, and_true]; first | done | omega) | with_reducible exact True.intro))) | (with_reducible refine zO_brn ?ha ?hb ?hc ?_; (case ha => (first | omega | (simp (disch := omega) only [zst_ne, zst_s, zup_eq, zup_ne, Int.toNat_natCast, not_true_eq_false, not_false_eq_true, true_or, or_true, true_and, and_true]; first | done | omega) | with_reducible exact True.intro)); (case hb => (first | omega | (simp (disch := omega) only [zst_ne, zst_s, zup_eq, zup_ne, Int.toNat_natCast, not_true_eq_false, not_false_eq_true, true_or, or_true, true_and, and_true]; first | done | omega) | with_reducible exact True.intro)); (case hc => (first | omega | (simp (disch := omega) only [zst_ne, zst_s, zup_eq, zup_ne, Int.toNat_natCast, not_true_eq_false, not_false_eq_true, true_or, or_true, true_and, and_true]; first | done | omega) | with_reducible exact True.intro))) | simp (disch := omega) only [zst_ne, zst_s, zup_eq, zup_ne, Int.toNat_natCast, not_true_eq_false, not_false_eq_true, true_or, or_true, true_and, and_true] | (with_reducible refine zO_br ?ha ?hb (fun _ => ?_) (fun _ => ?_); (case ha => (first | omega | (simp (disch := omega) only [zst_ne, zst_s, zup_eq, zup_ne, Int.toNat_natCast, not_true_eq_false, not_false_eq_true, true_or, or_true, true_and, and_true]; first | done | omega) | with_reducible exact True.intro)); (case hb => (first | omega | (simp (disch := omega) only [zst_ne, zst_s, zup_eq, zup_ne, Int.toNat_natCast, not_true_eq_false, not_false_eq_true, true_or, or_true, true_and, and_true]; first | done | omega) | with_reducible exact True.intro))) | (with_reducible refine zO_ifp ?hc ?_; case hc => (first | omega | (simp (disch := omega) only [zst_ne, zst_s, zup_eq, zup_ne, Int.toNat_natCast, not_true_eq_false, not_false_eq_true, true_or, or_true, true_and, and_true]; first | done | omega) | with_reducible exact True.intro)) | (with_reducible refine zO_ifn ?hc ?_; case hc => (first | omega | (simp (disch := omega) only [zst_ne, zst_s, zup_eq, zup_ne, Int.toNat_natCast, not_true_eq_false, not_false_eq_true, true_or, or_true, true_and, and_true]; first | done | omega) | with_reducible exact True.intro)) | fail)
  exact zO_some rfl
theorem g11_isNot {k : zK} {M : zM} : g_X11_isNot k M = some (zst M 77 0 (M 77 0 + 1), 0) := by
  unfold g_X11_isNot
  apply zO_get
  repeat' (first | (with_reducible refine zO_lt ?_) | (with_reducible refine zO_gd ?hc ?_; case hc => (first | omega | (simp (disch := omega) only [zst_ne, zst_s, zup_eq, zup_ne, Int.toNat_natCast, not_true_eq_false, not_false_eq_true, true_or, or_true, true_and, and_true]; first | done | omega) | with_reducible exact True.intro)) | (with_reducible refine zO_brp ?ha ?hb ?hc ?_; (case ha => (first | omega | (simp (disch := omega) only [zst_ne, zst_s, zup_eq, zup_ne, Int.toNat_natCast, not_true_eq_false, not_false_eq_true, true_or, or_true, true_and, and_true]; first | done | omega) | with_reducible exact True.intro)); (case hb => (first | omega | (simp (disch := omega) only [zst_ne, zst_s, zup_eq, zup_ne, Int.toNat_natCast, not_true_eq_false, not_false_eq_true, true_or, or_true, true_and, and_true]; first | done | omega) | with_reducible exact True.intro)); (case hc => (first | omega | (simp (disch := omega) only [zst_ne, zst_s, zup_eq, zup_ne, Int.toNat_natCast, not_true_eq_false, not_false_eq_true, true_or, or_true, true_and, and_true]; first | done | omega) | with_reducible exact True.intro))) | (with_reducible refine zO_brn ?ha ?hb ?hc ?_; (case ha => (first | omega | (simp (disch := omega) only [zst_ne, zst_s, zup_eq, zup_ne, Int.toNat_natCast, not_true_eq_false, not_false_eq_true, true_or, or_true, true_and, and_true]; first | done | omega) | with_reducible exact True.intro)); (case hb => (first | omega | (simp (disch := omega) only [zst_ne, zst_s, zup_eq, zup_ne, Int.toNat_natCast, not_true_eq_false, not_false_eq_true, true_or, or_true, true_and, and_true]; first | done | omega) | with_reducible exact True.intro)); (case hc => (first | omega | (simp (disch := omega) only [zst_ne, zst_s, zup_eq, zup_ne, Int.toNat_natCast, not_true_eq_false, not_false_eq_true, true_or, or_true, true_and, and_true]; first | done | omega) | with_reducible exact True.intro))) | simp (disch := omega) only [zst_ne, zst_s, zup_eq, zup_ne, Int.toNat_natCast, not_true_eq_false, not_false_eq_true, true_or, or_true, true_and, and_true] | (with_reducible refine zO_br ?ha ?hb (fun _ => ?_) (fun _ => ?_); (case ha => (first | omega | (simp (disch := omega) only [zst_ne, zst_s, zup_eq, zup_ne, Int.toNat_natCast, not_true_eq_false, not_false_eq_true, true_or, or_true, true_and, and_true]; first | done | omega) | with_reducible exact True.intro)); (case hb => (first | omega | (simp (disch := omega) only [zst_ne, zst_s, zup_eq, zup_ne, Int.toNat_natCast, not_true_eq_false, not_false_eq_true, true_or, or_true, true_and, and_true]; first | done | omega) | with_reducible exact True.intro))) | (with_reducible refine zO_ifp ?hc ?_; case hc => (first | omega | (simp (disch := omega) only [zst_ne, zst_s, zup_eq, zup_ne, Int.toNat_natCast, not_true_eq_false, not_false_eq_true, true_or, or_true, true_and, and_true]; first | done | omega) | with_reducible exact True.intro)) | (with_reducible refine zO_ifn ?hc ?_; case hc => (first | omega | (simp (disch := omega) only [zst_ne, zst_s, zup_eq, zup_ne, Int.toNat_natCast, not_true_eq_false, not_false_eq_true, true_or, or_true, true_and, and_true]; first | done | omega) | with_reducible exact True.intro)) | fail)
  exact zO_some rfl
theorem zInv.ref {i L : Nat} {M : zM} {E : zE} (h : zInv i L M E) {p : Nat} (hp : p < 3) : zInv i L (zst (zst M 51 p (M 51 p + 1)) 77 p (zst M 51 p (M 51 p + 1) 77 p + 1)) E := by
  have d : zTd M (zst (zst M 51 p (M 51 p + 1)) 77 p (zst M 51 p (M 51 p + 1) 77 p + 1)) := zTd.rf.ur.us
  refine h.td d ?_ ?_ ?_ ?_
  · exact h.1.2.2.1.fr (fun q x y => by rw [zst_ne (by omega), zst_ne (by omega)]) (fun q x y => by rw [zst_ne (by omega), zst_ne (by omega)])
  · intro r hr
    have := h.1.2.2.2.2.2.2.2.1 r hr
    by_cases hq : r = p
    · subst hq
      rw [zst_ne (show (51 : Nat) ≠ 77 by decide), zst_eq, zst_eq, zst_ne (show (77 : Nat) ≠ 51 by decide), this]
    · rw [zst_ne (show (51 : Nat) ≠ 77 by decide), zst_ns hq, zst_ns hq, zst_ne (show (77 : Nat) ≠ 51 by decide)]
      exact this
  · exact h.2.1.td d (by simp (disch := omega) only [zst_ne, zst_s, zup_eq, zup_ne, Int.toNat_natCast, not_true_eq_false, not_false_eq_true, true_or, or_true, true_and, and_true]) (by simp (disch := omega) only [zst_ne, zst_s, zup_eq, zup_ne, Int.toNat_natCast, not_true_eq_false, not_false_eq_true, true_or, or_true, true_and, and_true]) (by simp (disch := omega) only [zst_ne, zst_s, zup_eq, zup_ne, Int.toNat_natCast, not_true_eq_false, not_false_eq_true, true_or, or_true, true_and, and_true])
  · exact h.2.2.td d (by simp (disch := omega) only [zst_ne, zst_s, zup_eq, zup_ne, Int.toNat_natCast, not_true_eq_false, not_false_eq_true, true_or, or_true, true_and, and_true]) (by simp (disch := omega) only [zst_ne, zst_s, zup_eq, zup_ne, Int.toNat_natCast, not_true_eq_false, not_false_eq_true, true_or, or_true, true_and, and_true]) (fun q hq => by rw [zst_ne (by omega), zst_ne (by omega)])

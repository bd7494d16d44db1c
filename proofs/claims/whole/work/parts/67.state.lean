/-! what stands: E is (F, lesser LEVELS, greater LEVELS, spans, catch, carry) -/
abbrev zE : Type := (Int → (Nat → Int) → Int → Int) × (Nat → Int) × (Nat → Int) × (Nat → Int) × Int × (Nat → Int)
abbrev eF (E : zE) : Int → (Nat → Int) → Int → Int := E.1
abbrev eL (E : zE) : Nat → Int := E.2.1
abbrev eH (E : zE) : Nat → Int := E.2.2.1
abbrev eP (E : zE) : Nat → Int := E.2.2.2.1
abbrev eT (E : zE) : Int := E.2.2.2.2.1
abbrev eA (E : zE) : Nat → Int := E.2.2.2.2.2
def eV (E : zE) (a : Nat) : Int := eL E a + eH E a
def zEok (E : zE) : Prop := zFok (eF E) ∧ (∀ a, a < 100 → 0 ≤ eL E a ∧ eL E a ≤ 99 ∧ 0 ≤ eH E a ∧ eH E a ≤ 99) ∧ (0 ≤ eT E ∧ eT E ≤ 10) ∧ (∀ h, h < 3 → 0 ≤ eA E h ∧ eA E h ≤ 100) ∧ (∀ a : Nat, a < 100 → 0 ≤ eP E a ∧ eP E a ≤ a ∧ eP E (eP E a).toNat = eP E a ∧ eL E (eP E a).toNat = eL E a ∧ eH E (eP E a).toNat = eH E a) ∧ (∀ (a : Nat) (k o : Int) (w : Nat → Int), a < 100 → w 2 = (a : Int) → eF E k w o = eF E k (zup w 2 (eP E a)) o)
/-- the LAW told last, on both sides -/
def zLaw (i L : Nat) (M : zM) (E : zE) : Prop := (L = 52 ∨ L = 64) ∧ M 1 10 = (L : Int) ∧ M 1 11 = 116 - (L : Int) ∧ zLw i L M (eF E) ∧ (∀ a, a < 100 → M (L + 6) a = eL E a ∧ M (L + 7) a = eH E a ∧ M (L + 10) a = eP E a) ∧ M L 13 = eT E ∧ (∀ h, h < 3 → M (L + 11) h = eA E h) ∧ M L 0 = M 97 0 ∧ (0 ≤ M 97 0 ∧ M 97 0 ≤ 40) ∧ zLm i M (eF E) ∧ zSm i M (eL E) (eH E) ∧ (∀ M' : zM, (∀ q, 97 ≤ q → q ≤ 107 → ∀ j, j < zlo q → M' q j = M q j) → g_X11_last (zKn i) 6 (-1) M' = some (eT E) ∧ ∀ h : Nat, h < 3 → g_X11_last (zKn i) 5 (h : Int) M' = some (eA E h))
theorem zLaw.fr {i L : Nat} {M M' : zM} {E : zE} (h : zLaw i L M E) (h1 : ∀ q, 52 ≤ q → q ≤ 75 → M' q = M q) (h2 : ∀ q, 97 ≤ q → q ≤ 107 → M' q = M q) (h3 : M' 1 10 = M 1 10) (h4 : M' 1 11 = M 1 11) : zLaw i L M' E := by
  obtain ⟨a1, a2, a3, a4, a5, a6, a7, a8, a9, b1, b2, b3⟩ := h
  refine ⟨a1, by rw [h3]; exact a2, by rw [h4]; exact a3, a4.fr (h1 L (by omega) (by omega)) (fun q x y => h1 q (by omega) (by omega)), ?_, ?_, ?_, ?_, ?_, b1.fr h2, b2.fr h2, fun M'' e => b3 M'' (fun q x y j hj => (e q x y j hj).trans (zla h2 q x y j hj))⟩
  · intro a ha
    rw [h1 (L + 6) (by omega) (by omega), h1 (L + 7) (by omega) (by omega), h1 (L + 10) (by omega) (by omega)]
    exact a5 a ha
  · rw [h1 L (by omega) (by omega)]; exact a6
  · intro h hh
    rw [h1 (L + 11) (by omega) (by omega)]
    exact a7 h hh
  · rw [h1 L (by omega) (by omega), h2 97 (by omega) (by omega)]; exact a8
  · rw [h2 97 (by omega) (by omega)]; exact a9
/-- what is told, of the class at T and of the reference at b -/
def zTo (T b : Nat) (M : zM) : Prop :=
  (∀ c, c < 256 → M (T + 1) c = M 82 (256 * b + c) ∧ 0 ≤ M (T + 1) c ∧ M (T + 1) c ≤ 99) ∧
  (∀ c, c < 256 → M (T + 14) c = M 83 (256 * b + c) ∧ 0 ≤ M (T + 14) c ∧ M (T + 14) c ≤ 99) ∧
  (∀ c, c < 256 → M (T + 2) c = M 84 (256 * b + c) ∧ 0 ≤ M (T + 2) c ∧ M (T + 2) c ≤ 8) ∧
  (∀ c, c < 256 → M (T + 15) c = M 85 (256 * b + c) ∧ -1 ≤ M (T + 15) c ∧ M (T + 15) c ≤ 1) ∧
  (M T 15 = zsum 256 (fun c => if M (T + 15) c < 0 then 0 else 1) ∧ M T 15 ≤ 40) ∧
  (M T 16 = M 78 b ∧ 0 ≤ M 78 b ∧ M 78 b ≤ 80) ∧
  (∀ d, d < 80 → 0 ≤ M 86 (80 * b + d) ∧ M 86 (80 * b + d) < 16 ∧ (M 95 (80 * b + d) = 0 ∨ M 95 (80 * b + d) = 1)) ∧
  (∀ k : Nat, k < 16 → M (T + 3) k = zsum (M 78 b).toNat (fun d => if M 86 (80 * b + d) = (k : Int) then 1 else 0) ∧ M (T + 4) k = zsum (M 78 b).toNat (fun d => if M 86 (80 * b + d) = (k : Int) then M 95 (80 * b + d) else 0)) ∧
  (M T 17 = M 79 b ∧ 0 ≤ M 79 b ∧ M 79 b ≤ 60) ∧
  (∀ f, f < 60 → (M (T + 5) f = M 87 (60 * b + f) ∧ 0 ≤ M (T + 5) f ∧ M (T + 5) f < 256) ∧ (M (T + 6) f = M 88 (60 * b + f) ∧ 0 ≤ M (T + 6) f ∧ M (T + 6) f < 3) ∧ (M (T + 7) f = M 89 (60 * b + f) ∧ 0 ≤ M (T + 7) f ∧ M (T + 7) f ≤ M (T + 8) f) ∧ M (T + 8) f = M 90 (60 * b + f) ∧ M (T + 8) f < 100) ∧
  (M T 18 = M 80 b ∧ 0 ≤ M 80 b ∧ M 80 b ≤ 10) ∧
  (∀ p, p < 10 → M (T + 9) p = M 91 (10 * b + p) ∧ 0 ≤ M (T + 9) p ∧ M (T + 9) p < 256) ∧
  (M T 19 = M 81 b ∧ 0 ≤ M 81 b ∧ M 81 b ≤ 40) ∧
  (∀ l, l < 40 → (M (T + 10) l = M 96 (40 * b + l) ∧ (M (T + 10) l = 0 ∨ M (T + 10) l = 1)) ∧ (M (T + 11) l = M 92 (40 * b + l) ∧ 0 ≤ M (T + 11) l ∧ M (T + 11) l ≤ 99) ∧ (M (T + 12) l = M 93 (40 * b + l) ∧ 0 ≤ M (T + 12) l ∧ M (T + 12) l ≤ M (T + 13) l) ∧ M (T + 13) l = M 94 (40 * b + l) ∧ M (T + 13) l < 100)
theorem zTo.fr {T b : Nat} {M M' : zM} (h : zTo T b M) (h1 : ∀ q, T ≤ q → q ≤ T + 15 → M' q = M q) (h2 : ∀ q, 78 ≤ q → q ≤ 96 → M' q = M q) : zTo T b M' := by
  have e0 := h1 T (by omega) (by omega)
  have e : ∀ n, n ≤ 15 → M' (T + n) = M (T + n) := fun n hn => h1 (T + n) (by omega) (by omega)
  unfold zTo at *
  rw [e0, e 1 (by omega), e 2 (by omega), e 3 (by omega), e 4 (by omega), e 5 (by omega), e 6 (by omega), e 7 (by omega), e 8 (by omega), e 9 (by omega), e 10 (by omega), e 11 (by omega), e 12 (by omega), e 13 (by omega), e 14 (by omega), e 15 (by omega), h2 78 (by omega) (by omega), h2 79 (by omega) (by omega), h2 80 (by omega) (by omega), h2 81 (by omega) (by omega), h2 82 (by omega) (by omega), h2 83 (by omega) (by omega), h2 84 (by omega) (by omega), h2 85 (by omega) (by omega), h2 86 (by omega) (by omega), h2 87 (by omega) (by omega), h2 88 (by omega) (by omega), h2 89 (by omega) (by omega), h2 90 (by omega) (by omega), h2 91 (by omega) (by omega), h2 92 (by omega) (by omega), h2 93 (by omega) (by omega), h2 94 (by omega) (by omega), h2 95 (by omega) (by omega), h2 96 (by omega) (by omega)]
  exact h
/-- the rest: images, refused, tape, fault -/
def zRs (i : Nat) (M : zM) : Prop := (i ≤ 3 ∧ ∀ j, i ≤ j → j < 3 → M 20 j = 0) ∧ M 1 13 = (i : Int) ∧ M 76 20 = (i : Int) ∧ (∀ j : Nat, j < i → M 20 j = 129 + 16 * (j : Int) ∧ zTo (129 + 16 * j) (j + 1) M) ∧ (∀ r, r < 3 → M 51 r = M 77 r) ∧ (M 2 1 = M 76 34 ∧ 0 ≤ M 2 1 ∧ M 2 1 ≤ 700) ∧ (∀ j, j < 700 → M 3 j = M 108 j % 256 ∧ -128 ≤ M 108 j ∧ M 108 j ≤ 127) ∧ M 1 12 = M 76 35
/-- all that calls that only ask leave as it is -/
def zSt (i L : Nat) (M : zM) (E : zE) : Prop := zEok E ∧ zLaw i L M E ∧ zTo 4 0 M ∧ zRs i M
/-- what a quiet call of the class leaves -/
def zQc (M M' : zM) : Prop := (∀ q, q ≠ 1 → (q < 21 ∨ 50 < q) → M' q = M q) ∧ ∀ x, x ≠ 14 → M' 1 x = M 1 x
/-- what a quiet call of the reference leaves -/
def zQm (M M' : zM) : Prop := (∀ q, q ≠ 76 → (q < 109 ∨ 128 < q) → M' q = M q) ∧ ∀ x, x < 36 → M' 76 x = M 76 x
theorem zQc.rf {M : zM} : zQc M M := ⟨fun _ _ _ => rfl, fun _ _ => rfl⟩
theorem zQm.rf {M : zM} : zQm M M := ⟨fun _ _ _ => rfl, fun _ _ => rfl⟩
theorem zQc.tr {M M' M'' : zM} (h : zQc M M') (h' : zQc M' M'') : zQc M M'' := ⟨fun q a b => (h'.1 q a b).trans (h.1 q a b), fun x a => (h'.2 x a).trans (h.2 x a)⟩
theorem zQm.tr {M M' M'' : zM} (h : zQm M M') (h' : zQm M' M'') : zQm M M'' := ⟨fun q a b => (h'.1 q a b).trans (h.1 q a b), fun x a => (h'.2 x a).trans (h.2 x a)⟩
theorem zQc.of {l : List Nat} {M M' : zM} (h : zFr l M M') (hl : ∀ q ∈ l, 21 ≤ q ∧ q ≤ 50) : zQc M M' := ⟨fun q a b => h q (fun hm => by have := hl q hm; omega), fun x _ => by rw [h 1 (fun hm => by have := hl 1 hm; omega)]⟩
theorem zQm.of {l : List Nat} {M M' : zM} (h : zFr l M M') (hl : ∀ q ∈ l, 109 ≤ q ∧ q ≤ 128) : zQm M M' := ⟨fun q a b => h q (fun hm => by have := hl q hm; omega), fun x _ => by rw [h 76 (fun hm => by have := hl 76 hm; omega)]⟩
theorem zRs.fr {i : Nat} {M M' : zM} (h : zRs i M) (h1 : ∀ q, (2 ≤ q ∧ q ≤ 20) ∨ q = 51 ∨ q = 77 ∨ (78 ≤ q ∧ q ≤ 96) ∨ q = 108 ∨ 129 ≤ q → M' q = M q) (h2 : ∀ x, x ≠ 14 → M' 1 x = M 1 x) (h3 : ∀ x, x < 36 → M' 76 x = M 76 x) : zRs i M' := by
  obtain ⟨a1, a2, a3, a4, a5, a6, a7, a8⟩ := h
  refine ⟨⟨a1.1, fun j x y => by rw [h1 20 (by omega)]; exact a1.2 j x y⟩, by rw [h2 13 (by omega)]; exact a2, by rw [h3 20 (by omega)]; exact a3, ?_, ?_, ?_, ?_, ?_⟩
  · intro j hj
    rw [h1 20 (by omega)]
    exact ⟨(a4 j hj).1, (a4 j hj).2.fr (fun q x y => h1 q (by omega)) (fun q x y => h1 q (by omega))⟩
  · intro r hr
    rw [h1 51 (by omega), h1 77 (by omega)]
    exact a5 r hr
  · rw [h1 2 (by omega), h3 34 (by omega)]; exact a6
  · intro j hj
    rw [h1 3 (by omega), h1 108 (by omega)]
    exact a7 j hj
  · rw [h2 12 (by omega), h3 35 (by omega)]; exact a8
theorem zSt.qc {i L : Nat} {M M' : zM} {E : zE} (h : zSt i L M E) (q : zQc M M') : zSt i L M' E := by
  obtain ⟨h1, h2, h3, h4⟩ := h
  refine ⟨h1, h2.fr (fun x a b => q.1 x (by omega) (by omega)) (fun x a b => q.1 x (by omega) (by omega)) (q.2 10 (by omega)) (q.2 11 (by omega)), h3.fr (fun x a b => q.1 x (by omega) (by omega)) (fun x a b => q.1 x (by omega) (by omega)), h4.fr (fun x a => q.1 x (by omega) (by omega)) q.2 (fun x a => by rw [q.1 76 (by omega) (by omega)])⟩
theorem zSt.qm {i L : Nat} {M M' : zM} {E : zE} (h : zSt i L M E) (q : zQm M M') : zSt i L M' E := by
  obtain ⟨h1, h2, h3, h4⟩ := h
  refine ⟨h1, h2.fr (fun x a b => q.1 x (by omega) (by omega)) (fun x a b => q.1 x (by omega) (by omega)) (by rw [q.1 1 (by omega) (by omega)]) (by rw [q.1 1 (by omega) (by omega)]), h3.fr (fun x a b => q.1 x (by omega) (by omega)) (fun x a b => q.1 x (by omega) (by omega)), h4.fr (fun x a => q.1 x (by omega) (by omega)) (fun x _ => by rw [q.1 1 (by omega) (by omega)]) q.2⟩
/-! the ground's MIDDLES -/
def zgm (E : zE) (M : zM) : Nat → Int := sMid (eF E) (M 5) (M 18)
theorem zSt.lo {i L : Nat} {M : zM} {E : zE} (h : zSt i L M E) : zLH (M 5) := fun c hc => (h.2.2.1.1 c hc).2
theorem zSt.hi {i L : Nat} {M : zM} {E : zE} (h : zSt i L M E) : zLH (M 18) := fun c hc => (h.2.2.1.2.1 c hc).2
theorem zSt.mid {i L : Nat} {M : zM} {E : zE} (h : zSt i L M E) : zMid (zgm E M) := sMid_m h.1.1 h.lo h.hi
theorem zgm_qc {M M' : zM} {E : zE} (q : zQc M M') : zgm E M' = zgm E M := by
  unfold zgm
  rw [q.1 5 (by omega) (by omega), q.1 18 (by omega) (by omega)]
theorem zgm_qm {M M' : zM} {E : zE} (q : zQm M M') : zgm E M' = zgm E M := by
  unfold zgm
  rw [q.1 5 (by omega) (by omega), q.1 18 (by omega) (by omega)]
/-! LIVE -/
def sLiv (F : Int → (Nat → Int) → Int → Int) (m : Nat → Int) (lv age : Int) (c : Nat) : Int := if lv < m c then F 2 (sWo m lv age c) 0 else 0
theorem sLiv_r {E : zE} (hE : zEok E) {m : Nat → Int} {lv age : Int} {c : Nat} : 0 ≤ sLiv (eF E) m lv age c ∧ sLiv (eF E) m lv age c ≤ 99 := by
  unfold sLiv
  split
  · exact hE.1.2.2.1 _
  · omega
def zlv (E : zE) (M : zM) (a c : Nat) : Int := sLiv (eF E) (zgm E M) (eV E a) a c
def zto (E : zE) (M : zM) (a : Nat) : Int := zsum 256 (zlv E M a)
/-- a span's first AGE tells of all of it -/
theorem zlv_sp {E : zE} (hE : zEok E) {M : zM} {a c : Nat} (ha : a < 100) : zlv E M (eP E a).toNat c = zlv E M a c := by
  obtain ⟨_, _, _, _, h5, h6⟩ := hE
  obtain ⟨p0, p1, _, p3, p4⟩ := h5 a ha
  unfold zlv eV
  rw [p3, p4]
  unfold sLiv
  rw [h6 a 2 0 (sWo (zgm E M) (eL E a + eH E a) a c) ha rfl]
  have : sWo (zgm E M) (eL E a + eH E a) ((eP E a).toNat : Int) c = zup (sWo (zgm E M) (eL E a + eH E a) a c) 2 (eP E a) := by
    funext j
    unfold zup sWo
    by_cases h : j = 2
    · subst h
      simp
      omega
    · rw [if_neg h]
      simp [h]
  rw [this]
theorem zto_sp {E : zE} (hE : zEok E) {M : zM} {a : Nat} (ha : a < 100) : zto E M (eP E a).toNat = zto E M a := zsum_congr (fun c _ => zlv_sp hE ha)
theorem eV_sp {E : zE} (hE : zEok E) {a : Nat} (ha : a < 100) : eV E (eP E a).toNat = eV E a := by
  have := hE.2.2.2.2.1 a ha
  unfold eV
  rw [this.2.2.2.1, this.2.2.2.2]
theorem eV_r {E : zE} (hE : zEok E) {a : Nat} (ha : a < 100) : 0 ≤ eV E a ∧ eV E a ≤ 198 := by
  have := hE.2.1 a ha
  unfold eV
  omega
/-- the class's LIVES -/
def zLi (M : zM) (E : zE) : Prop := ∀ a : Nat, a < 100 → M 40 a = -1 ∨ (M 40 a = zto E M a ∧ ∀ c, c < 256 → M 41 (256 * a + c) = zlv E M a c)
/-- the class has settled -/
def zSe (M : zM) (E : zE) : Prop := M 1 14 = 0 ∧ (∀ j, 2 ≤ j → j < 7 → M 35 j = 0) ∧ zGC M (eF E) ∧ (M 21 6 = -1 ∨ (0 ≤ M 21 6 ∧ M 21 6 ≤ 198 ∧ zVC M (M 21 6))) ∧ zLi M E
/-- what the class keeps is right -/
def zCa (M : zM) (E : zE) : Prop := (∀ j, 2 ≤ j → j < 7 → M 35 j = 0) ∧ (M 1 14 = 1 ∨ zSe M E)
theorem zSe.ca {M : zM} {E : zE} (h : zSe M E) : zCa M E := ⟨h.2.1, Or.inr h⟩
theorem zSe.eq {M : zM} {E : zE} (h : zSe M E) : zEqm (M 28) (zgm E M) := fun c hc => (h.2.2.1 c hc).2.2.2.1
theorem zSe.mid {i L : Nat} {M : zM} {E : zE} (h : zSe M E) (hs : zSt i L M E) : zMid (M 28) := h.eq.symm.mid hs.mid
theorem g10_settle {i L : Nat} {M : zM} {E : zE} (hs : zSt i L M E) (hc : zCa M E) : zO (g_X10_settle (zKn i) M) (fun M' => zQc M M' ∧ zSe M' E ∧ zFr [1, 21, 25, 26, 27, 28, 29, 30, 31, 32, 33, 34, 35, 40] M M') := by
  unfold g_X10_settle
  rcases hc with ⟨hw, h1 | hse⟩
  · obtain ⟨aL, a10, _, aF, _⟩ := hs.2.1
    repeat' (first | (with_reducible refine zO_lt ?_) | (with_reducible refine zO_gd ?hc ?_; case hc => (first | omega | (simp (disch := omega) only [zst_ne, zst_s, zup_eq, zup_ne, Int.toNat_natCast, not_true_eq_false, not_false_eq_true, true_or, or_true, true_and, and_true]; first | done | omega) | with_reducible exact True.intro)) | (with_reducible refine zO_brp ?ha ?hb ?hc ?_; (case ha => (first | omega | (simp (disch := omega) only [zst_ne, zst_s, zup_eq, zup_ne, Int.toNat_natCast, not_true_eq_false, not_false_eq_true, true_or, or_true, true_and, and_true]; first | done | omega) | with_reducible exact True.intro)); (case hb => (first | omega | (simp (disch := omega) only [zst_ne, zst_s, zup_eq, zup_ne, Int.toNat_natCast, not_true_eq_false, not_false_eq_true, true_or, or_true, true_and, and_true]; first | done | omega) | with_reducible exact True.intro)); (case hc => (first | omega | (simp (disch := omega) only [zst_ne, zst_s, zup_eq, zup_ne, Int.toNat_natCast, not_true_eq_false, not_false_eq_true, true_or, or_true, true_and, and_true]; first | done | omega) | with_reducible exact True.intro))) | (with_reducible refine zO_brn ?ha ?hb ?hc ?_; (case ha => (first | omega | (simp (disch := omega) only [zst_ne, zst_s, zup_eq, zup_ne, Int.toNat_natCast, not_true_eq_false, not_false_eq_true, true_or, or_true, true_and, and_true]; first | done | omega) | with_reducible exact True.intro)); (case hb => (first | omega | (simp (disch := omega) only [zst_ne, zst_s, zup_eq, zup_ne, Int.toNat_natCast, not_true_eq_false, not_false_eq_true, true_or, or_true, true_and, and_true]; first | done | omega) | with_reducible exact True.intro)); (case hc => (first | omega | (simp (disch := omega) only [zst_ne, zst_s, zup_eq, zup_ne, Int.toNat_natCast, not_true_eq_false, not_false_eq_true, true_or, or_true, true_and, and_true]; first | done | omega) | with_reducible exact True.intro))) | simp (disch := omega) only [zst_ne, zst_s, zup_eq, zup_ne, Int.toNat_natCast, not_true_eq_false, not_false_eq_true, true_or, or_true, true_and, and_true] | (with_reducible refine zO_br ?ha ?hb (fun _ => ?_) (fun _ => ?_); (case ha => (first | omega | (simp (disch := omega) only [zst_ne, zst_s, zup_eq, zup_ne, Int.toNat_natCast, not_true_eq_false, not_false_eq_true, true_or, or_true, true_and, and_true]; first | done | omega) | with_reducible exact True.intro)); (case hb => (first | omega | (simp (disch := omega) only [zst_ne, zst_s, zup_eq, zup_ne, Int.toNat_natCast, not_true_eq_false, not_false_eq_true, true_or, or_true, true_and, and_true]; first | done | omega) | with_reducible exact True.intro))) | (with_reducible refine zO_ifp ?hc ?_; case hc => (first | omega | (simp (disch := omega) only [zst_ne, zst_s, zup_eq, zup_ne, Int.toNat_natCast, not_true_eq_false, not_false_eq_true, true_or, or_true, true_and, and_true]; first | done | omega) | with_reducible exact True.intro)) | (with_reducible refine zO_ifn ?hc ?_; case hc => (first | omega | (simp (disch := omega) only [zst_ne, zst_s, zup_eq, zup_ne, Int.toNat_natCast, not_true_eq_false, not_false_eq_true, true_or, or_true, true_and, and_true]; first | done | omega) | with_reducible exact True.intro)) | fail)
    have hq : (M 1 10).toNat = L := by rw [a10, Int.toNat_natCast]
    rw [hq]
    refine zO_gd ?_ (zO_lt ?_)
    · rcases aL with rfl | rfl
      · exact ⟨zt_52, by decide⟩
      · exact ⟨zt_64, by decide⟩
    · refine zO_b1q (g2_survey aL aF hs.1.1 hs.lo hs.hi hw) ?_
      rintro A ⟨fA, gA, wA⟩
      unfold g_X8_forget g_X4_forget
      refine zO_b1 (zO_lt (zO_some ?_))
      refine zO_b1 (zO_b1e (zfill zl_40 (by omega)) (zO_some ?_))
      generalize hB : (fun a b => if a = 40 ∧ b < 100 then (-1 : Int) else zst A 21 6 (-1) a b) = B
      have fB : ∀ q, q ≠ 40 → B q = zst A 21 6 (-1) q := by
        intro q hq
        rw [← hB]
        funext b
        simp [hq]
      have b40 : ∀ a, a < 100 → B 40 a = -1 := by
        intro a ha
        rw [← hB]
        simp [ha]
      repeat' (first | (with_reducible refine zO_lt ?_) | (with_reducible refine zO_gd ?hc ?_; case hc => (first | omega | (simp (disch := omega) only [zst_ne, zst_s, zup_eq, zup_ne, Int.toNat_natCast, not_true_eq_false, not_false_eq_true, true_or, or_true, true_and, and_true]; first | done | omega) | with_reducible exact True.intro)) | (with_reducible refine zO_brp ?ha ?hb ?hc ?_; (case ha => (first | omega | (simp (disch := omega) only [zst_ne, zst_s, zup_eq, zup_ne, Int.toNat_natCast, not_true_eq_false, not_false_eq_true, true_or, or_true, true_and, and_true]; first | done | omega) | with_reducible exact True.intro)); (case hb => (first | omega | (simp (disch := omega) only [zst_ne, zst_s, zup_eq, zup_ne, Int.toNat_natCast, not_true_eq_false, not_false_eq_true, true_or, or_true, true_and, and_true]; first | done | omega) | with_reducible exact True.intro)); (case hc => (first | omega | (simp (disch := omega) only [zst_ne, zst_s, zup_eq, zup_ne, Int.toNat_natCast, not_true_eq_false, not_false_eq_true, true_or, or_true, true_and, and_true]; first | done | omega) | with_reducible exact True.intro))) | (with_reducible refine zO_brn ?ha ?hb ?hc ?_; (case ha => (first | omega | (simp (disch := omega) only [zst_ne, zst_s, zup_eq, zup_ne, Int.toNat_natCast, not_true_eq_false, not_false_eq_true, true_or, or_true, true_and, and_true]; first | done | omega) | with_reducible exact True.intro)); (case hb => (first | omega | (simp (disch := omega) only [zst_ne, zst_s, zup_eq, zup_ne, Int.toNat_natCast, not_true_eq_false, not_false_eq_true, true_or, or_true, true_and, and_true]; first | done | omega) | with_reducible exact True.intro)); (case hc => (first | omega | (simp (disch := omega) only [zst_ne, zst_s, zup_eq, zup_ne, Int.toNat_natCast, not_true_eq_false, not_false_eq_true, true_or, or_true, true_and, and_true]; first | done | omega) | with_reducible exact True.intro))) | simp (disch := omega) only [zst_ne, zst_s, zup_eq, zup_ne, Int.toNat_natCast, not_true_eq_false, not_false_eq_true, true_or, or_true, true_and, and_true] | (with_reducible refine zO_br ?ha ?hb (fun _ => ?_) (fun _ => ?_); (case ha => (first | omega | (simp (disch := omega) only [zst_ne, zst_s, zup_eq, zup_ne, Int.toNat_natCast, not_true_eq_false, not_false_eq_true, true_or, or_true, true_and, and_true]; first | done | omega) | with_reducible exact True.intro)); (case hb => (first | omega | (simp (disch := omega) only [zst_ne, zst_s, zup_eq, zup_ne, Int.toNat_natCast, not_true_eq_false, not_false_eq_true, true_or, or_true, true_and, and_true]; first | done | omega) | with_reducible exact True.intro))) | (with_reducible refine zO_ifp ?hc ?_; case hc => (first | omega | (simp (disch := omega) only [zst_ne, zst_s, zup_eq, zup_ne, Int.toNat_natCast, not_true_eq_false, not_false_eq_true, true_or, or_true, true_and, and_true]; first | done | omega) | with_reducible exact True.intro)) | (with_reducible refine zO_ifn ?hc ?_; case hc => (first | omega | (simp (disch := omega) only [zst_ne, zst_s, zup_eq, zup_ne, Int.toNat_natCast, not_true_eq_false, not_false_eq_true, true_or, or_true, true_and, and_true]; first | done | omega) | with_reducible exact True.intro)) | fail)
      have gg : ∀ q, q ≠ 1 → q ≠ 21 → q ≠ 40 → zst B 1 14 0 q = A q := by
        intro q h1 h2 h3
        rw [zst_ne h1, fB q h3, zst_ne h2]
      refine zO_some ⟨⟨?_, ?_⟩, ⟨zst_eq, ?_, ?_, Or.inl ?_, ?_⟩, ?_⟩
      · intro q h1 h2
        rw [gg q h1 (by omega) (by omega)]
        exact fA q (zGi_n (by omega))
      · intro x hx
        rw [zst_ns hx, fB 1 (by decide), zst_ne (by decide), fA 1 (zGi_n (by omega))]
      · intro j h1 h2
        rw [gg 35 (by decide) (by decide) (by decide)]
        exact wA j h1 h2
      · intro c hc
        rw [gg 25 (by decide) (by decide) (by decide), gg 26 (by decide) (by decide) (by decide), gg 27 (by decide) (by decide) (by decide), gg 28 (by decide) (by decide) (by decide), gg 29 (by decide) (by decide) (by decide), gg 30 (by decide) (by decide) (by decide), gg 31 (by decide) (by decide) (by decide), gg 32 (by decide) (by decide) (by decide), gg 5 (by decide) (by decide) (by decide), gg 18 (by decide) (by decide) (by decide)]
        exact gA c hc
      · rw [zst_ne (by decide), fB 21 (by decide), zst_eq]
      · intro a ha
        refine Or.inl ?_
        rw [zst_ne (by decide)]
        exact b40 a ha
      · intro q hq
        have : ∀ x, x ∈ ([1, 21, 25, 26, 27, 28, 29, 30, 31, 32, 33, 34, 35, 40] : List Nat) → q ≠ x := fun x hx e => hq (e ▸ hx)
        rw [gg q (this 1 (by decide)) (this 21 (by decide)) (this 40 (by decide))]
        exact fA q (fun hm => hq (by
          have : ∀ x ∈ zGi, x ∈ ([1, 21, 25, 26, 27, 28, 29, 30, 31, 32, 33, 34, 35, 40] : List Nat) := by decide
          exact this q hm))
  · have := hse.1
    repeat' (first | (with_reducible refine zO_lt ?_) | (with_reducible refine zO_gd ?hc ?_; case hc => (first | omega | (simp (disch := omega) only [zst_ne, zst_s, zup_eq, zup_ne, Int.toNat_natCast, not_true_eq_false, not_false_eq_true, true_or, or_true, true_and, and_true]; first | done | omega) | with_reducible exact True.intro)) | (with_reducible refine zO_brp ?ha ?hb ?hc ?_; (case ha => (first | omega | (simp (disch := omega) only [zst_ne, zst_s, zup_eq, zup_ne, Int.toNat_natCast, not_true_eq_false, not_false_eq_true, true_or, or_true, true_and, and_true]; first | done | omega) | with_reducible exact True.intro)); (case hb => (first | omega | (simp (disch := omega) only [zst_ne, zst_s, zup_eq, zup_ne, Int.toNat_natCast, not_true_eq_false, not_false_eq_true, true_or, or_true, true_and, and_true]; first | done | omega) | with_reducible exact True.intro)); (case hc => (first | omega | (simp (disch := omega) only [zst_ne, zst_s, zup_eq, zup_ne, Int.toNat_natCast, not_true_eq_false, not_false_eq_true, true_or, or_true, true_and, and_true]; first | done | omega) | with_reducible exact True.intro))) | (with_reducible refine zO_brn ?ha ?hb ?hc ?_; (case ha => (first | omega | (simp (disch := omega) only [zst_ne, zst_s, zup_eq, zup_ne, Int.toNat_natCast, not_true_eq_false, not_false_eq_true, true_or, or_true, true_and, and_true]; first | done | omega) | with_reducible exact True.intro)); (case hb => (first | omega | (simp (disch := omega) only [zst_ne, zst_s, zup_eq, zup_ne, Int.toNat_natCast, not_true_eq_false, not_false_eq_true, true_or, or_true, true_and, and_true]; first | done | omega) | with_reducible exact True.intro)); (case hc => (first | omega | (simp (disch := omega) only [zst_ne, zst_s, zup_eq, zup_ne, Int.toNat_natCast, not_true_eq_false, not_false_eq_true, true_or, or_true, true_and, and_true]; first | done | omega) | with_reducible exact True.intro))) | simp (disch := omega) only [zst_ne, zst_s, zup_eq, zup_ne, Int.toNat_natCast, not_true_eq_false, not_false_eq_true, true_or, or_true, true_and, and_true] | (with_reducible refine zO_br ?ha ?hb (fun _ => ?_) (fun _ => ?_); (case ha => (first | omega | (simp (disch := omega) only [zst_ne, zst_s, zup_eq, zup_ne, Int.toNat_natCast, not_true_eq_false, not_false_eq_true, true_or, or_true, true_and, and_true]; first | done | omega) | with_reducible exact True.intro)); (case hb => (first | omega | (simp (disch := omega) only [zst_ne, zst_s, zup_eq, zup_ne, Int.toNat_natCast, not_true_eq_false, not_false_eq_true, true_or, or_true, true_and, and_true]; first | done | omega) | with_reducible exact True.intro))) | (with_reducible refine zO_ifp ?hc ?_; case hc => (first | omega | (simp (disch := omega) only [zst_ne, zst_s, zup_eq, zup_ne, Int.toNat_natCast, not_true_eq_false, not_false_eq_true, true_or, or_true, true_and, and_true]; first | done | omega) | with_reducible exact True.intro)) | (with_reducible refine zO_ifn ?hc ?_; case hc => (first | omega | (simp (disch := omega) only [zst_ne, zst_s, zup_eq, zup_ne, Int.toNat_natCast, not_true_eq_false, not_false_eq_true, true_or, or_true, true_and, and_true]; first | done | omega) | with_reducible exact True.intro)) | fail)
    exact zO_some ⟨zQc.rf, hse, zFr_refl⟩

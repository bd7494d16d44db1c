/-! LEFT and the ways -/
def sL1 (E : zE) (M : zM) (a c : Nat) : Int := if eV E a < zgm E M c then (M 8 (sKi (zgm E M) (eV E a) c).toNat + 1) * (10 - eT E) ^ (M 6 c).toNat else 0
def sL2 (E : zE) (M : zM) (a c : Nat) : Int := if eV E a < zgm E M c then sL1 E M a c + (M 7 (sKi (zgm E M) (eV E a) c).toNat + 2 - (M 8 (sKi (zgm E M) (eV E a) c).toNat + 1)) * 10 ^ (M 6 c).toNat else 1
def sLft (E : zE) (M : zM) (a c : Nat) : Int := sL1 E M a c * 1000000 / sL2 E M a c
def zWay (P : Nat) (n : Int) (w : Nat → Int) : Prop := (∀ p, p < P → 0 ≤ w p) ∧ zsum P w = n
def zNo (lf : Int) (ct : Int) (k : Int) : Int := 1000000 - lf + lf * (10 - ct) ^ k.toNat / 10 ^ k.toNat
def zVal (lf : Nat → Int) (ct : Int) (w : Nat → Int) : Nat → Int
  | 0 => 1000000
  | p + 1 => zVal lf ct w p * zNo (lf p) ct (w p) / 1000000
def zLex (P : Nat) (w w' : Nat → Int) : Prop := ∃ p, p < P ∧ (∀ q, q < p → w q = w' q) ∧ w' p < w p
def zBest (P : Nat) (n : Int) (lf : Nat → Int) (ct : Int) (least : Int) (w : Nat → Int) : Prop := zWay P n w ∧ least = zVal lf ct w P ∧ ∀ w', zWay P n w' → least < zVal lf ct w' P ∨ (least = zVal lf ct w' P ∧ ((∀ p, p < P → w p = w' p) ∨ zLex P w w'))
/-- the way that the class keeps is right -/
def zWy (M : zM) (E : zE) : Prop := M 46 6 = -1 ∨ ∃ n a : Nat, M 46 6 = (a : Int) ∧ M 46 5 = (n : Int) ∧ a < 100 ∧ 1 ≤ n ∧ n ≤ 6 ∧ 1 ≤ M 4 18 ∧ zBest (M 4 18).toNat n (fun p => sLft E M a (M 13 p).toNat) (eT E) (M 46 1) (M 47)
theorem zWy.fr {M M' : zM} {E : zE} (h : zWy M E) (h1 : M' 46 = M 46) (h2 : M' 47 = M 47) (h3 : M' 4 18 = M 4 18) (h4 : ∀ q, q = 5 ∨ q = 6 ∨ q = 7 ∨ q = 8 ∨ q = 13 ∨ q = 18 → M' q = M q) : zWy M' E := by
  unfold zWy sLft sL2 sL1 zgm at *
  rw [h1, h2, h3, h4 5 (by omega), h4 6 (by omega), h4 7 (by omega), h4 8 (by omega), h4 13 (by omega), h4 18 (by omega)]
  exact h
/-- all that stands between calls -/
def zInv (i L : Nat) (M : zM) (E : zE) : Prop := zSt i L M E ∧ zCa M E ∧ zWy M E
/-- quiet, and the ways as they were -/
def zQw (M M' : zM) : Prop := zQc M M' ∧ M' 46 = M 46 ∧ M' 47 = M 47
theorem zQw.rf {M : zM} : zQw M M := ⟨zQc.rf, rfl, rfl⟩
theorem zQw.tr {M M' M'' : zM} (h : zQw M M') (h' : zQw M' M'') : zQw M M'' := ⟨h.1.tr h'.1, h'.2.1.trans h.2.1, h'.2.2.trans h.2.2⟩
theorem zQw.of {l : List Nat} {M M' : zM} (h : zFr l M M') (hl : ∀ q ∈ l, 21 ≤ q ∧ q ≤ 50 ∧ q ≠ 46 ∧ q ≠ 47) : zQw M M' := ⟨zQc.of h (fun q hq => by have := hl q hq; omega), h 46 (fun hm => by have := hl 46 hm; omega), h 47 (fun hm => by have := hl 47 hm; omega)⟩
theorem zInv.qw {i L : Nat} {M M' : zM} {E : zE} (h : zInv i L M E) (q : zQw M M') (hc : zCa M' E) : zInv i L M' E := ⟨h.1.qc q.1, hc, h.2.2.fr q.2.1 q.2.2 (by rw [q.1.1 4 (by omega) (by omega)]) (fun x hx => q.1.1 x (by omega) (by omega))⟩
theorem zCa.fr {M M' : zM} {E : zE} (h : zCa M E) (h0 : M' 1 14 = M 1 14) (h1 : ∀ q, q = 5 ∨ q = 18 ∨ (21 ≤ q ∧ q ≤ 23) ∨ (25 ≤ q ∧ q ≤ 32) ∨ q = 35 ∨ q = 40 ∨ q = 41 → M' q = M q) : zCa M' E := by
  refine ⟨by rw [h1 35 (by omega)]; exact h.1, ?_⟩
  rcases h.2 with h | h
  · exact Or.inl (by rw [h0]; exact h)
  · exact Or.inr (h.fr h0 h1)
theorem zInv.qm {i L : Nat} {M M' : zM} {E : zE} (h : zInv i L M E) (q : zQm M M') : zInv i L M' E := ⟨h.1.qm q, h.2.1.fr (by rw [q.1 1 (by omega) (by omega)]) (fun x hx => q.1 x (by omega) (by omega)), h.2.2.fr (q.1 46 (by omega) (by omega)) (q.1 47 (by omega) (by omega)) (by rw [q.1 4 (by omega) (by omega)]) (fun x hx => q.1 x (by omega) (by omega))⟩
theorem g10_view' {i L : Nat} {M : zM} {E : zE} {a : Nat} (ha : a < 100) (h : zInv i L M E) : zO (g_X10_viewAt (zKn i) (a : Int) M) (fun r => r.2 = 21 ∧ zQw M r.1 ∧ zVw r.1 E (eV E a) ∧ zInv i L r.1 E) := by
  refine zO_mono (g10_view ha h.1 h.2.1) ?_
  rintro ⟨M', v⟩ ⟨h1, h2, h3, h4⟩
  have q : zQw M M' := ⟨h2, h4 46 (by decide), h4 47 (by decide)⟩
  exact ⟨h1, q, h3, h.qw q h3.1.ca⟩
theorem g10_settle' {i L : Nat} {M : zM} {E : zE} (h : zInv i L M E) : zO (g_X10_settle (zKn i) M) (fun M' => zQw M M' ∧ zSe M' E ∧ zInv i L M' E) := by
  refine zO_mono (g10_settle h.1 h.2.1) ?_
  rintro M' ⟨h2, h3, h4⟩
  have q : zQw M M' := ⟨h2, h4 46 (by decide), h4 47 (by decide)⟩
  exact ⟨q, h3, h.qw q h3.ca⟩
/-! the arguments' tests -/
theorem t_cell {k : zK} {c : Int} {M : zM} (h : 0 ≤ c ∧ c < 256) : f_X10_isCell k c M = some 1 ∧ f_X11_isCell k c M = some 1 := by
  rw [f10_isCell ⟨by omega, by omega⟩, f11_isCell ⟨by omega, by omega⟩, if_pos h]
  exact ⟨rfl, rfl⟩
theorem t_cell_n {k : zK} {c : Int} {M : zM} (hz : zr c) (h : ¬ (0 ≤ c ∧ c < 256)) : f_X10_isCell k c M = some 0 ∧ f_X11_isCell k c M = some 0 := by
  rw [f10_isCell hz, f11_isCell hz, if_neg h]
  exact ⟨rfl, rfl⟩
theorem t_age {k : zK} {c : Int} {M : zM} (h : 0 ≤ c ∧ c < 100) : f_X10_isAge k c M = some 1 ∧ f_X11_isAge k c M = some 1 := by
  rw [f10_isAge ⟨by omega, by omega⟩, f11_isAge ⟨by omega, by omega⟩, if_pos h]
  exact ⟨rfl, rfl⟩
theorem t_age_n {k : zK} {c : Int} {M : zM} (hz : zr c) (h : ¬ (0 ≤ c ∧ c < 100)) : f_X10_isAge k c M = some 0 ∧ f_X11_isAge k c M = some 0 := by
  rw [f10_isAge hz, f11_isAge hz, if_neg h]
  exact ⟨rfl, rfl⟩
theorem t_part {k : zK} {c : Int} {M : zM} (h : c = 0 ∨ c = 1) : f_X10_isPart k c M = some 1 ∧ f_X11_within k c 0 1 M = some 1 := by
  rw [f10_isPart ⟨by omega, by omega⟩, f11_within ⟨by omega, by omega⟩ ⟨by omega, by omega⟩ ⟨by omega, by omega⟩, if_pos h, if_pos ⟨by omega, by omega⟩]
  exact ⟨rfl, rfl⟩
theorem t_part_n {k : zK} {c : Int} {M : zM} (hz : zr c) (h : ¬ (c = 0 ∨ c = 1)) : f_X10_isPart k c M = some 0 ∧ f_X11_within k c 0 1 M = some 0 := by
  rw [f10_isPart hz, f11_within hz ⟨by omega, by omega⟩ ⟨by omega, by omega⟩, if_neg h, if_neg (fun h' => h (by omega))]
  exact ⟨rfl, rfl⟩
theorem t_kind {k : zK} {c : Int} {M : zM} (h : 0 ≤ c ∧ c < 16) : f_X10_isKind k c M = some 1 ∧ f_X11_within k c 0 15 M = some 1 := by
  rw [f10_isKind ⟨by omega, by omega⟩, f11_within ⟨by omega, by omega⟩ ⟨by omega, by omega⟩ ⟨by omega, by omega⟩, if_pos h, if_pos ⟨by omega, by omega⟩]
  exact ⟨rfl, rfl⟩
theorem t_kind_n {k : zK} {c : Int} {M : zM} (hz : zr c) (h : ¬ (0 ≤ c ∧ c < 16)) : f_X10_isKind k c M = some 0 ∧ f_X11_within k c 0 15 M = some 0 := by
  rw [f10_isKind hz, f11_within hz ⟨by omega, by omega⟩ ⟨by omega, by omega⟩, if_neg h, if_neg (fun h' => h (by omega))]
  exact ⟨rfl, rfl⟩
theorem t_in {k : zK} {a b c : Int} {M : zM} (ha : zr a) (hb : zr b) (hc : zr c) (h : b ≤ a ∧ a ≤ c) : f_X11_within k a b c M = some 1 := by
  rw [f11_within ha hb hc, if_pos h]
theorem t_in_n {k : zK} {a b c : Int} {M : zM} (ha : zr a) (hb : zr b) (hc : zr c) (h : ¬ (b ≤ a ∧ a ≤ c)) : f_X11_within k a b c M = some 0 := by
  rw [f11_within ha hb hc, if_neg h]
theorem t_ages {k : zK} {a b : Int} {M : zM} (h : 0 ≤ a ∧ b < 100 ∧ a ≤ b) : f_X10_areAges k a b M = some 1 ∧ f_X11_areAges k a b M = some 1 := by
  rw [f10_areAges ⟨by omega, by omega⟩ ⟨by omega, by omega⟩, f11_areAges ⟨by omega, by omega⟩ ⟨by omega, by omega⟩, if_pos h]
  exact ⟨rfl, rfl⟩
theorem t_ages_n {k : zK} {a b : Int} {M : zM} (ha : zr a) (hb : zr b) (h : ¬ (0 ≤ a ∧ b < 100 ∧ a ≤ b)) : f_X10_areAges k a b M = some 0 ∧ f_X11_areAges k a b M = some 0 := by
  rw [f10_areAges ha hb, f11_areAges ha hb, if_neg h]
  exact ⟨rfl, rfl⟩
/-! answers of both sides -/
/-- the class answers with a memory, the reference with one too -/
def zP2 (i L : Nat) (E : zE) (f g : zM → Option (zM × Int)) (M : zM) : Prop := zO (f M) (fun r => zO (g r.1) (fun r' => r.2 = r'.2 ∧ zInv i L r'.1 E))
/-- the class answers without one -/
def zP1 (i L : Nat) (E : zE) (f : zM → Option Int) (g : zM → Option (zM × Int)) (M : zM) : Prop := zO (f M) (fun v => zO (g M) (fun r' => v = r'.2 ∧ zInv i L r'.1 E))
/-- both without -/
def zP0 (f g : zM → Option Int) (M : zM) : Prop := ∃ v, f M = some v ∧ g M = some v
/-- by one answer, which quiet calls don't change -/
theorem zP2_of {i L : Nat} {E : zE} {f g : zM → Option (zM × Int)} {M : zM} (s : zM → Int) (hI : zInv i L M E) (hf : zO (f M) (fun r => r.2 = s M ∧ zQw M r.1 ∧ zCa r.1 E)) (hg : ∀ M', zInv i L M' E → zO (g M') (fun r => r.2 = s M' ∧ zQm M' r.1)) (hs : ∀ M', zQc M M' → s M' = s M) : zP2 i L E f g M := by
  refine zO_mono hf ?_
  rintro ⟨M', v⟩ ⟨h1, h2, h3⟩
  have hI' := hI.qw h2 h3
  refine zO_mono (hg M' hI') ?_
  rintro ⟨M'', v'⟩ ⟨h4, h5⟩
  exact ⟨by dsimp only at *; rw [h1, h4, hs M' h2.1], hI'.qm h5⟩
theorem zP1_of {i L : Nat} {E : zE} {f : zM → Option Int} {g : zM → Option (zM × Int)} {M : zM} (s : Int) (hI : zInv i L M E) (hf : f M = some s) (hg : zO (g M) (fun r => r.2 = s ∧ zQm M r.1)) : zP1 i L E f g M := by
  refine zO_eq hf (zO_mono hg ?_)
  rintro ⟨M', v'⟩ ⟨h4, h5⟩
  exact ⟨h4.symm, hI.qm h5⟩

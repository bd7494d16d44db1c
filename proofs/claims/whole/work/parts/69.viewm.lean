/-! the reference looks -/
/-- the reference's ground and land of an AGE -/
def zMw (M : zM) (E : zE) (a : Nat) : Prop := zGM M (eF E) ∧ M 76 48 = eL E a ∧ M 76 49 = eH E a ∧ zVM M (eV E a)
theorem zGM.fr {M M' : zM} {F : Int → (Nat → Int) → Int → Int} (h : zGM M F) (h1 : ∀ q, 113 ≤ q → q ≤ 117 → M' q = M q) (h2 : M' 82 = M 82) (h3 : M' 83 = M 83) : zGM M' F := by
  unfold zGM at *
  rw [h1 113 (by omega) (by omega), h1 114 (by omega) (by omega), h1 115 (by omega) (by omega), h1 116 (by omega) (by omega), h1 117 (by omega) (by omega), h2, h3]
  exact h
theorem zVM.fr {M M' : zM} {lv : Int} (h : zVM M lv) (h1 : M' 118 = M 118) (h2 : M' 120 = M 120) (h3 : M' 114 = M 114) : zVM M' lv := by
  unfold zVM at *
  rw [h1, h2, h3]
  exact h
theorem zMw.fr {M M' : zM} {E : zE} {a : Nat} (h : zMw M E a) (h1 : ∀ q, q = 82 ∨ q = 83 ∨ (113 ≤ q ∧ q ≤ 118) ∨ q = 120 → M' q = M q) (h2 : M' 76 48 = M 76 48) (h3 : M' 76 49 = M 76 49) : zMw M' E a := ⟨h.1.fr (fun q x y => h1 q (by omega)) (h1 82 (by omega)) (h1 83 (by omega)), by rw [h2]; exact h.2.1, by rw [h3]; exact h.2.2.1, h.2.2.2.fr (h1 118 (by omega)) (h1 120 (by omega)) (h1 114 (by omega))⟩
theorem zSt.eqm {i L : Nat} {M : zM} {E : zE} (hs : zSt i L M E) (h : zGM M (eF E)) : zEqm (M 114) (zgm E M) := by
  intro c hc
  rw [(h c hc).2.1]
  have h1 := (hs.2.2.1.1 c hc).1
  have h2 := (hs.2.2.1.2.1 c hc).1
  have e : 256 * 0 + c = c := by omega
  rw [e] at h1 h2
  unfold zgm sMid sLo
  rw [show M 5 c = M 82 c from h1, show M 18 c = M 83 c from h2]
theorem zSt.midm {i L : Nat} {M : zM} {E : zE} (hs : zSt i L M E) (h : zGM M (eF E)) : zMid (M 114) := (hs.eqm h).symm.mid hs.mid
theorem g11_ground' {i L : Nat} {M : zM} {E : zE} (hs : zSt i L M E) : zO (g_X11_findGround (zKn i) M) (fun M' => zQm M M' ∧ zGM M' (eF E) ∧ zFr zHi M M') := by
  have h82 : zLH (M 82) := fun c hc => by
    have h1 := hs.2.2.1.1 c hc
    have e : 256 * 0 + c = c := by omega
    rw [e] at h1
    rw [← h1.1]; exact h1.2
  have h83 : zLH (M 83) := fun c hc => by
    have h1 := hs.2.2.1.2.1 c hc
    have e : 256 * 0 + c = c := by omega
    rw [e] at h1
    rw [← h1.1]; exact h1.2
  refine zO_mono (g11_ground hs.2.1.2.2.2.2.2.2.2.2.2.1 hs.1.1 h82 h83) ?_
  rintro M' ⟨h1, h2⟩
  exact ⟨zQm.of h1 (by decide), h2, h1⟩
theorem g11_land' {i L : Nat} {M : zM} {E : zE} {a : Nat} (hs : zSt i L M E) (hg : zGM M (eF E)) (ha : a < 100) : zO (g_X11_findLand (zKn i) (a : Int) M) (fun M' => zQm M M' ∧ zMw M' E a ∧ zFr [76, 118, 120, 121] M M' ∧ (∀ x, x ≠ 48 → x ≠ 49 → M' 76 x = M 76 x)) := by
  refine zO_mono (g11_land ha hs.2.1.2.2.2.2.2.2.2.2.2.2.1 hs.1.2.1 (hs.midm hg)) ?_
  rintro M' ⟨h1, h2, h3, h4, h5⟩
  refine ⟨⟨fun q x y => h1 q (by simp; omega), fun x hx => h2 x (by omega) (by omega)⟩, ⟨hg.fr (fun q x y => h1 q (by simp; omega)) (h1 82 (by decide)) (h1 83 (by decide)), h3, h4, h5⟩, h1, h2⟩
theorem g11_finds {i L : Nat} {M : zM} {E : zE} {a : Nat} (hs : zSt i L M E) (ha : a < 100) : zO (g_X11_finds (zKn i) (a : Int) M) (fun M' => zQm M M' ∧ zMw M' E a) := by
  unfold g_X11_finds
  refine zO_b1q (g11_ground' hs) ?_
  rintro A ⟨qA, gA, _⟩
  refine zO_b1q (g11_land' (hs.qm qA) gA ha) ?_
  rintro B ⟨qB, vB, _⟩
  exact zO_some ⟨qA.tr qB, vB⟩
theorem zMw.eq {i L : Nat} {M : zM} {E : zE} {a : Nat} (hs : zSt i L M E) (h : zMw M E a) : zEqm (M 114) (zgm E M) := hs.eqm h.1
theorem zMw.rw {M : zM} {E : zE} {a : Nat} (h : zMw M E a) : ∀ x : Nat, x < 256 → M 116 x = sRiv (M 114) x ∧ M 117 x = sWind (M 114) x := fun x hx => ⟨(h.1 x hx).2.2.2.1, (h.1 x hx).2.2.2.2⟩
theorem zMw.land {i L : Nat} {M : zM} {E : zE} {a : Nat} (hs : zSt i L M E) (h : zMw M E a) {c : Nat} (hc : c < 256) : M 118 c = sLand (zgm E M) (eV E a) c := by rw [(h.2.2.2 c hc).1, sLand_congr (h.eq hs) hc]
theorem zMw.coast {i L : Nat} {M : zM} {E : zE} {a : Nat} (hs : zSt i L M E) (h : zMw M E a) {c : Nat} (hc : c < 256) : M 120 c = sCo (sSea (zgm E M) (eV E a)) c := by rw [(h.2.2.2 c hc).2, sCo_congr (h.eq hs) hc]
theorem zMw.ht {i L : Nat} {M : zM} {E : zE} {a : Nat} {c : Int} (hs : zSt i L M E) (h : zMw M E a) (ha : a < 100) (hc : 0 ≤ c ∧ c < 256) : g_X11_heightOf (zKn i) c M = some (sHt (zgm E M) (eV E a) c.toNat) := by
  rw [g11_height hc (hs.midm h.1) h.2.1 h.2.2.1 (hs.1.2.1 a ha) h.2.2.2]
  unfold sHt
  rw [h.eq hs _ (by omega)]
  rfl
theorem zMw.ki {i L : Nat} {M : zM} {E : zE} {a : Nat} {c : Int} (hs : zSt i L M E) (h : zMw M E a) (ha : a < 100) (hc : 0 ≤ c ∧ c < 256) : g_X11_kindOf (zKn i) c M = some (sKi (zgm E M) (eV E a) c.toNat) := by
  rw [g11_kind hc (hs.midm h.1) h.2.1 h.2.2.1 (hs.1.2.1 a ha) h.2.2.2 h.rw, sKi_congr (h.eq hs) (by omega)]
  rfl
theorem zMw.fr2 {M M' : zM} {E : zE} {a : Nat} {l : List Nat} (h : zMw M E a) (hf : zFr l M M') (hl : ∀ q ∈ l, q = 111 ∨ q = 112 ∨ q = 119 ∨ q = 121 ∨ 122 ≤ q) : zMw M' E a := by
  have e : ∀ q, q ≠ 111 → q ≠ 112 → q ≠ 119 → q ≠ 121 → q < 122 → M' q = M q := fun q h1 h2 h3 h4 h5 => hf q (fun hm => by have := hl q hm; omega)
  exact h.fr (fun q hq => e q (by omega) (by omega) (by omega) (by omega) (by omega)) (by rw [e 76 (by omega) (by omega) (by omega) (by omega) (by omega)]) (by rw [e 76 (by omega) (by omega) (by omega) (by omega) (by omega)])
/-- what by answers -/
def sBy (F : Int → (Nat → Int) → Int → Int) (m : Nat → Int) (lv age kind : Int) (c : Nat) : Int := if kind = 2 ∧ ¬ lv < m c then 0 else F kind (sWo m lv age c) (if kind = 4 then 100 else 0)
theorem sBy_2 {F : Int → (Nat → Int) → Int → Int} {m : Nat → Int} {lv age : Int} {c : Nat} : sBy F m lv age 2 c = sLiv F m lv age c := by
  unfold sBy sLiv
  by_cases h : lv < m c
  · rw [if_neg (fun h' => h'.2 h), if_pos h]; rfl
  · rw [if_pos ⟨rfl, h⟩, if_neg h]
theorem g11_by {i L : Nat} {M : zM} {E : zE} {a : Nat} {kind c : Int} (hs : zSt i L M E) (h : zMw M E a) (ha : a < 100) (hc : 0 ≤ c ∧ c < 256) (hk : kind = 2 ∨ kind = 3 ∨ kind = 4) : zO (g_X11_by (zKn i) kind c (a : Int) M) (fun r => r.2 = sBy (eF E) (zgm E M) (eV E a) a kind c.toNat ∧ zFr [111, 112] M r.1 ∧ zQm M r.1 ∧ zMw r.1 E a) := by
  obtain ⟨n, rfl⟩ : ∃ n : Nat, c = n := ⟨c.toNat, by omega⟩
  rw [Int.toNat_natCast]
  have hland := h.land hs (c := n) (by omega)
  have hwords := g11_words (k := zKn i) (age := (a : Int)) hc (hs.midm h.1) h.2.1 h.2.2.1 (hs.1.2.1 a ha) h.2.2.2 h.rw
  have go : zO (zb1 (g_X11_asked (zKn i) n a M) (fun M1 => zb1 (zbr kind 4 (¬ kind = 4) (some 0) (some 100)) (fun x2 => zbd (g_X11_first (zKn i) kind x2 M1) (fun M4 v3 => some (M4, v3))))) (fun r => r.2 = eF E kind (sWo (zgm E M) (eV E a) a n) (if kind = 4 then 100 else 0) ∧ zFr [111, 112] M r.1 ∧ zQm M r.1 ∧ zMw r.1 E a) := by
    refine zO_b1q hwords ?_
    rintro A ⟨fA, wA⟩
    have hwc := sWo_congr (h.eq hs) (lv := eV E a) (age := a) (c := n) (by omega)
    rw [Int.toNat_natCast] at wA
    have wA' : ∀ j, j < 7 → A 111 j = sWo (zgm E M) (eV E a) a n j := fun j hj => by rw [wA j hj]; exact congrFun hwc j
    have e : zbr kind 4 (¬ kind = 4) (some (0 : Int)) (some 100) = some (if kind = 4 then 100 else 0) := by
      by_cases h4 : kind = 4
      · rw [zbr_n (by omega) (by omega) (by omega), if_pos h4]
      · rw [zbr_p (by omega) (by omega) h4, if_neg h4]
    refine zO_b1e e ?_
    refine zO_bdq (hs.2.1.2.2.2.2.2.2.2.2.2.1 kind _ A (by omega) (zla (fun q x y => fA q (by simp; omega))) (fun j hj => by
      rw [wA' j hj]
      exact sWo_r hs.mid (by omega) (eV_r hs.1 ha).1 ⟨by omega, by omega⟩)) ?_
    rintro B v ⟨hv, fB⟩
    have f : zFr [111, 112] M B := (fA.mono (by decide)).tr (fB.mono (by decide))
    refine zO_some ⟨?_, f, zQm.of f (by decide), h.fr2 f (by decide)⟩
    dsimp only at *
    rw [hv]
    exact hs.1.1.1 kind _ _ _ wA'
  have h01 := sLand_01 (m := zgm E M) (lv := eV E a) (c := n)
  rw [← hland] at h01
  unfold g_X11_by
  unfold sBy
  by_cases hk2 : kind = 2
  · by_cases hl : eV E a < zgm E M n
    · rw [sLand_p hl] at hland
      rw [if_neg (fun h' => h'.2 hl)]
      simp only [Int.toNat_natCast]
      refine zO_sp0 ?_
      repeat' (first | (with_reducible refine zO_lt ?_) | (with_reducible refine zO_gd ?hc ?_; case hc => (first | omega | (simp (disch := omega) only [zst_ne, zst_s, zup_eq, zup_ne, Int.toNat_natCast, not_true_eq_false, not_false_eq_true, true_or, or_true, true_and, and_true]; first | done | omega) | with_reducible exact True.intro)) | (with_reducible refine zO_brp ?ha ?hb ?hc ?_; (case ha => (first | omega | (simp (disch := omega) only [zst_ne, zst_s, zup_eq, zup_ne, Int.toNat_natCast, not_true_eq_false, not_false_eq_true, true_or, or_true, true_and, and_true]; first | done | omega) | with_reducible exact True.intro)); (case hb => (first | omega | (simp (disch := omega) only [zst_ne, zst_s, zup_eq, zup_ne, Int.toNat_natCast, not_true_eq_false, not_false_eq_true, true_or, or_true, true_and, and_true]; first | done | omega) | with_reducible exact True.intro)); (case hc => (first | omega | (simp (disch := omega) only [zst_ne, zst_s, zup_eq, zup_ne, Int.toNat_natCast, not_true_eq_false, not_false_eq_true, true_or, or_true, true_and, and_true]; first | done | omega) | with_reducible exact True.intro))) | (with_reducible refine zO_brn ?ha ?hb ?hc ?_; (case ha => (first | omega | (simp (disch := omega) only [zst_ne, zst_s, zup_eq, zup_ne, Int.toNat_natCast, not_true_eq_false, not_false_eq_true, true_or, or_true, true_and, and_true]; first | done | omega) | with_reducible exact True.intro)); (case hb => (first | omega | (simp (disch := omega) only [zst_ne, zst_s, zup_eq, zup_ne, Int.toNat_natCast, not_true_eq_false, not_false_eq_true, true_or, or_true, true_and, and_true]; first | done | omega) | with_reducible exact True.intro)); (case hc => (first | omega | (simp (disch := omega) only [zst_ne, zst_s, zup_eq, zup_ne, Int.toNat_natCast, not_true_eq_false, not_false_eq_true, true_or, or_true, true_and, and_true]; first | done | omega) | with_reducible exact True.intro))) | simp (disch := omega) only [zst_ne, zst_s, zup_eq, zup_ne, Int.toNat_natCast, not_true_eq_false, not_false_eq_true, true_or, or_true, true_and, and_true] | (with_reducible refine zO_br ?ha ?hb (fun _ => ?_) (fun _ => ?_); (case ha => (first | omega | (simp (disch := omega) only [zst_ne, zst_s, zup_eq, zup_ne, Int.toNat_natCast, not_true_eq_false, not_false_eq_true, true_or, or_true, true_and, and_true]; first | done | omega) | with_reducible exact True.intro)); (case hb => (first | omega | (simp (disch := omega) only [zst_ne, zst_s, zup_eq, zup_ne, Int.toNat_natCast, not_true_eq_false, not_false_eq_true, true_or, or_true, true_and, and_true]; first | done | omega) | with_reducible exact True.intro))) | (with_reducible refine zO_ifp ?hc ?_; case hc => (first | omega | (simp (disch := omega) only [zst_ne, zst_s, zup_eq, zup_ne, Int.toNat_natCast, not_true_eq_false, not_false_eq_true, true_or, or_true, true_and, and_true]; first | done | omega) | with_reducible exact True.intro)) | (with_reducible refine zO_ifn ?hc ?_; case hc => (first | omega | (simp (disch := omega) only [zst_ne, zst_s, zup_eq, zup_ne, Int.toNat_natCast, not_true_eq_false, not_false_eq_true, true_or, or_true, true_and, and_true]; first | done | omega) | with_reducible exact True.intro)) | fail)
      exact zO_inlk go
    · rw [sLand_n hl] at hland
      rw [if_pos ⟨hk2, hl⟩]
      simp only [Int.toNat_natCast]
      refine zO_sp0 ?_
      repeat' (first | (with_reducible refine zO_lt ?_) | (with_reducible refine zO_gd ?hc ?_; case hc => (first | omega | (simp (disch := omega) only [zst_ne, zst_s, zup_eq, zup_ne, Int.toNat_natCast, not_true_eq_false, not_false_eq_true, true_or, or_true, true_and, and_true]; first | done | omega) | with_reducible exact True.intro)) | (with_reducible refine zO_brp ?ha ?hb ?hc ?_; (case ha => (first | omega | (simp (disch := omega) only [zst_ne, zst_s, zup_eq, zup_ne, Int.toNat_natCast, not_true_eq_false, not_false_eq_true, true_or, or_true, true_and, and_true]; first | done | omega) | with_reducible exact True.intro)); (case hb => (first | omega | (simp (disch := omega) only [zst_ne, zst_s, zup_eq, zup_ne, Int.toNat_natCast, not_true_eq_false, not_false_eq_true, true_or, or_true, true_and, and_true]; first | done | omega) | with_reducible exact True.intro)); (case hc => (first | omega | (simp (disch := omega) only [zst_ne, zst_s, zup_eq, zup_ne, Int.toNat_natCast, not_true_eq_false, not_false_eq_true, true_or, or_true, true_and, and_true]; first | done | omega) | with_reducible exact True.intro))) | (with_reducible refine zO_brn ?ha ?hb ?hc ?_; (case ha => (first | omega | (simp (disch := omega) only [zst_ne, zst_s, zup_eq, zup_ne, Int.toNat_natCast, not_true_eq_false, not_false_eq_true, true_or, or_true, true_and, and_true]; first | done | omega) | with_reducible exact True.intro)); (case hb => (first | omega | (simp (disch := omega) only [zst_ne, zst_s, zup_eq, zup_ne, Int.toNat_natCast, not_true_eq_false, not_false_eq_true, true_or, or_true, true_and, and_true]; first | done | omega) | with_reducible exact True.intro)); (case hc => (first | omega | (simp (disch := omega) only [zst_ne, zst_s, zup_eq, zup_ne, Int.toNat_natCast, not_true_eq_false, not_false_eq_true, true_or, or_true, true_and, and_true]; first | done | omega) | with_reducible exact True.intro))) | simp (disch := omega) only [zst_ne, zst_s, zup_eq, zup_ne, Int.toNat_natCast, not_true_eq_false, not_false_eq_true, true_or, or_true, true_and, and_true] | (with_reducible refine zO_br ?ha ?hb (fun _ => ?_) (fun _ => ?_); (case ha => (first | omega | (simp (disch := omega) only [zst_ne, zst_s, zup_eq, zup_ne, Int.toNat_natCast, not_true_eq_false, not_false_eq_true, true_or, or_true, true_and, and_true]; first | done | omega) | with_reducible exact True.intro)); (case hb => (first | omega | (simp (disch := omega) only [zst_ne, zst_s, zup_eq, zup_ne, Int.toNat_natCast, not_true_eq_false, not_false_eq_true, true_or, or_true, true_and, and_true]; first | done | omega) | with_reducible exact True.intro))) | (with_reducible refine zO_ifp ?hc ?_; case hc => (first | omega | (simp (disch := omega) only [zst_ne, zst_s, zup_eq, zup_ne, Int.toNat_natCast, not_true_eq_false, not_false_eq_true, true_or, or_true, true_and, and_true]; first | done | omega) | with_reducible exact True.intro)) | (with_reducible refine zO_ifn ?hc ?_; case hc => (first | omega | (simp (disch := omega) only [zst_ne, zst_s, zup_eq, zup_ne, Int.toNat_natCast, not_true_eq_false, not_false_eq_true, true_or, or_true, true_and, and_true]; first | done | omega) | with_reducible exact True.intro)) | fail)
      refine zO_inrk (zO_some ⟨rfl, zFr_refl, zQm.rf, h⟩)
  · rw [if_neg (fun h' => hk2 h'.1)]
    refine zO_sp0 ?_
    repeat' (first | (with_reducible refine zO_lt ?_) | (with_reducible refine zO_gd ?hc ?_; case hc => (first | omega | (simp (disch := omega) only [zst_ne, zst_s, zup_eq, zup_ne, Int.toNat_natCast, not_true_eq_false, not_false_eq_true, true_or, or_true, true_and, and_true]; first | done | omega) | with_reducible exact True.intro)) | (with_reducible refine zO_brp ?ha ?hb ?hc ?_; (case ha => (first | omega | (simp (disch := omega) only [zst_ne, zst_s, zup_eq, zup_ne, Int.toNat_natCast, not_true_eq_false, not_false_eq_true, true_or, or_true, true_and, and_true]; first | done | omega) | with_reducible exact True.intro)); (case hb => (first | omega | (simp (disch := omega) only [zst_ne, zst_s, zup_eq, zup_ne, Int.toNat_natCast, not_true_eq_false, not_false_eq_true, true_or, or_true, true_and, and_true]; first | done | omega) | with_reducible exact True.intro)); (case hc => (first | omega | (simp (disch := omega) only [zst_ne, zst_s, zup_eq, zup_ne, Int.toNat_natCast, not_true_eq_false, not_false_eq_true, true_or, or_true, true_and, and_true]; first | done | omega) | with_reducible exact True.intro))) | (with_reducible refine zO_brn ?ha ?hb ?hc ?_; (case ha => (first | omega | (simp (disch := omega) only [zst_ne, zst_s, zup_eq, zup_ne, Int.toNat_natCast, not_true_eq_false, not_false_eq_true, true_or, or_true, true_and, and_true]; first | done | omega) | with_reducible exact True.intro)); (case hb => (first | omega | (simp (disch := omega) only [zst_ne, zst_s, zup_eq, zup_ne, Int.toNat_natCast, not_true_eq_false, not_false_eq_true, true_or, or_true, true_and, and_true]; first | done | omega) | with_reducible exact True.intro)); (case hc => (first | omega | (simp (disch := omega) only [zst_ne, zst_s, zup_eq, zup_ne, Int.toNat_natCast, not_true_eq_false, not_false_eq_true, true_or, or_true, true_and, and_true]; first | done | omega) | with_reducible exact True.intro))) | simp (disch := omega) only [zst_ne, zst_s, zup_eq, zup_ne, Int.toNat_natCast, not_true_eq_false, not_false_eq_true, true_or, or_true, true_and, and_true] | (with_reducible refine zO_br ?ha ?hb (fun _ => ?_) (fun _ => ?_); (case ha => (first | omega | (simp (disch := omega) only [zst_ne, zst_s, zup_eq, zup_ne, Int.toNat_natCast, not_true_eq_false, not_false_eq_true, true_or, or_true, true_and, and_true]; first | done | omega) | with_reducible exact True.intro)); (case hb => (first | omega | (simp (disch := omega) only [zst_ne, zst_s, zup_eq, zup_ne, Int.toNat_natCast, not_true_eq_false, not_false_eq_true, true_or, or_true, true_and, and_true]; first | done | omega) | with_reducible exact True.intro))) | (with_reducible refine zO_ifp ?hc ?_; case hc => (first | omega | (simp (disch := omega) only [zst_ne, zst_s, zup_eq, zup_ne, Int.toNat_natCast, not_true_eq_false, not_false_eq_true, true_or, or_true, true_and, and_true]; first | done | omega) | with_reducible exact True.intro)) | (with_reducible refine zO_ifn ?hc ?_; case hc => (first | omega | (simp (disch := omega) only [zst_ne, zst_s, zup_eq, zup_ne, Int.toNat_natCast, not_true_eq_false, not_false_eq_true, true_or, or_true, true_and, and_true]; first | done | omega) | with_reducible exact True.intro)) | fail)
    exact zO_inlk go
/-- LIVES of all CELLS at an AGE -/
theorem g11_lives {i L : Nat} {M : zM} {E : zE} {a : Nat} (hs : zSt i L M E) (ha : a < 100) : zO (g_X11_findLives (zKn i) (a : Int) M) (fun M' => zQm M M' ∧ zMw M' E a ∧ ∀ c, c < 256 → M' 126 c = zlv E M a c) := by
  unfold g_X11_findLives
  refine zO_b1q (g11_finds hs ha) ?_
  rintro A ⟨qA, vA⟩
  have hsA := hs.qm qA
  have hg : zgm E A = zgm E M := zgm_qm qA
  refine zO_b1 ?_
  unfold zw2
  refine zO_for (fun s => s.1) 256 (fun j s => zFr [111, 112, 126] A s.2 ∧ zMw s.2 E a ∧ ∀ c, c < j → s.2 126 c = zlv E M a c) ?_ ?_ (by omega) 0 (by omega) rfl ⟨zFr_refl, vA, fun c hc => by omega⟩
  · rintro j ⟨y, M'⟩ hj hc ⟨hfr, hv, hI⟩
    simp only at hc hfr hv hI
    subst hc
    have q' : zQm A M' := zQm.of hfr (by decide)
    have hby := g11_by (kind := 2) (c := (j : Int)) (hsA.qm q') hv ha ⟨by omega, by omega⟩ (Or.inl rfl)
    rw [zgm_qm q', hg, sBy_2, Int.toNat_natCast] at hby
    dsimp only
    rw [gb_X11_findLives_7]
    repeat' (first | (with_reducible refine zO_lt ?_) | (with_reducible refine zO_gd ?hc ?_; case hc => (first | omega | (simp (disch := omega) only [zst_ne, zst_s, zup_eq, zup_ne, Int.toNat_natCast, not_true_eq_false, not_false_eq_true, true_or, or_true, true_and, and_true]; first | done | omega) | with_reducible exact True.intro)) | (with_reducible refine zO_brp ?ha ?hb ?hc ?_; (case ha => (first | omega | (simp (disch := omega) only [zst_ne, zst_s, zup_eq, zup_ne, Int.toNat_natCast, not_true_eq_false, not_false_eq_true, true_or, or_true, true_and, and_true]; first | done | omega) | with_reducible exact True.intro)); (case hb => (first | omega | (simp (disch := omega) only [zst_ne, zst_s, zup_eq, zup_ne, Int.toNat_natCast, not_true_eq_false, not_false_eq_true, true_or, or_true, true_and, and_true]; first | done | omega) | with_reducible exact True.intro)); (case hc => (first | omega | (simp (disch := omega) only [zst_ne, zst_s, zup_eq, zup_ne, Int.toNat_natCast, not_true_eq_false, not_false_eq_true, true_or, or_true, true_and, and_true]; first | done | omega) | with_reducible exact True.intro))) | (with_reducible refine zO_brn ?ha ?hb ?hc ?_; (case ha => (first | omega | (simp (disch := omega) only [zst_ne, zst_s, zup_eq, zup_ne, Int.toNat_natCast, not_true_eq_false, not_false_eq_true, true_or, or_true, true_and, and_true]; first | done | omega) | with_reducible exact True.intro)); (case hb => (first | omega | (simp (disch := omega) only [zst_ne, zst_s, zup_eq, zup_ne, Int.toNat_natCast, not_true_eq_false, not_false_eq_true, true_or, or_true, true_and, and_true]; first | done | omega) | with_reducible exact True.intro)); (case hc => (first | omega | (simp (disch := omega) only [zst_ne, zst_s, zup_eq, zup_ne, Int.toNat_natCast, not_true_eq_false, not_false_eq_true, true_or, or_true, true_and, and_true]; first | done | omega) | with_reducible exact True.intro))) | simp (disch := omega) only [zst_ne, zst_s, zup_eq, zup_ne, Int.toNat_natCast, not_true_eq_false, not_false_eq_true, true_or, or_true, true_and, and_true] | (with_reducible refine zO_br ?ha ?hb (fun _ => ?_) (fun _ => ?_); (case ha => (first | omega | (simp (disch := omega) only [zst_ne, zst_s, zup_eq, zup_ne, Int.toNat_natCast, not_true_eq_false, not_false_eq_true, true_or, or_true, true_and, and_true]; first | done | omega) | with_reducible exact True.intro)); (case hb => (first | omega | (simp (disch := omega) only [zst_ne, zst_s, zup_eq, zup_ne, Int.toNat_natCast, not_true_eq_false, not_false_eq_true, true_or, or_true, true_and, and_true]; first | done | omega) | with_reducible exact True.intro))) | (with_reducible refine zO_ifp ?hc ?_; case hc => (first | omega | (simp (disch := omega) only [zst_ne, zst_s, zup_eq, zup_ne, Int.toNat_natCast, not_true_eq_false, not_false_eq_true, true_or, or_true, true_and, and_true]; first | done | omega) | with_reducible exact True.intro)) | (with_reducible refine zO_ifn ?hc ?_; case hc => (first | omega | (simp (disch := omega) only [zst_ne, zst_s, zup_eq, zup_ne, Int.toNat_natCast, not_true_eq_false, not_false_eq_true, true_or, or_true, true_and, and_true]; first | done | omega) | with_reducible exact True.intro)) | fail)
    refine zO_bdq hby ?_
    rintro B v ⟨h1, h2, h3, h4⟩
    dsimp only at h1 h2 h3 h4
    repeat' (first | (with_reducible refine zO_lt ?_) | (with_reducible refine zO_gd ?hc ?_; case hc => (first | omega | (simp (disch := omega) only [zst_ne, zst_s, zup_eq, zup_ne, Int.toNat_natCast, not_true_eq_false, not_false_eq_true, true_or, or_true, true_and, and_true]; first | done | omega) | with_reducible exact True.intro)) | (with_reducible refine zO_brp ?ha ?hb ?hc ?_; (case ha => (first | omega | (simp (disch := omega) only [zst_ne, zst_s, zup_eq, zup_ne, Int.toNat_natCast, not_true_eq_false, not_false_eq_true, true_or, or_true, true_and, and_true]; first | done | omega) | with_reducible exact True.intro)); (case hb => (first | omega | (simp (disch := omega) only [zst_ne, zst_s, zup_eq, zup_ne, Int.toNat_natCast, not_true_eq_false, not_false_eq_true, true_or, or_true, true_and, and_true]; first | done | omega) | with_reducible exact True.intro)); (case hc => (first | omega | (simp (disch := omega) only [zst_ne, zst_s, zup_eq, zup_ne, Int.toNat_natCast, not_true_eq_false, not_false_eq_true, true_or, or_true, true_and, and_true]; first | done | omega) | with_reducible exact True.intro))) | (with_reducible refine zO_brn ?ha ?hb ?hc ?_; (case ha => (first | omega | (simp (disch := omega) only [zst_ne, zst_s, zup_eq, zup_ne, Int.toNat_natCast, not_true_eq_false, not_false_eq_true, true_or, or_true, true_and, and_true]; first | done | omega) | with_reducible exact True.intro)); (case hb => (first | omega | (simp (disch := omega) only [zst_ne, zst_s, zup_eq, zup_ne, Int.toNat_natCast, not_true_eq_false, not_false_eq_true, true_or, or_true, true_and, and_true]; first | done | omega) | with_reducible exact True.intro)); (case hc => (first | omega | (simp (disch := omega) only [zst_ne, zst_s, zup_eq, zup_ne, Int.toNat_natCast, not_true_eq_false, not_false_eq_true, true_or, or_true, true_and, and_true]; first | done | omega) | with_reducible exact True.intro))) | simp (disch := omega) only [zst_ne, zst_s, zup_eq, zup_ne, Int.toNat_natCast, not_true_eq_false, not_false_eq_true, true_or, or_true, true_and, and_true] | (with_reducible refine zO_br ?ha ?hb (fun _ => ?_) (fun _ => ?_); (case ha => (first | omega | (simp (disch := omega) only [zst_ne, zst_s, zup_eq, zup_ne, Int.toNat_natCast, not_true_eq_false, not_false_eq_true, true_or, or_true, true_and, and_true]; first | done | omega) | with_reducible exact True.intro)); (case hb => (first | omega | (simp (disch := omega) only [zst_ne, zst_s, zup_eq, zup_ne, Int.toNat_natCast, not_true_eq_false, not_false_eq_true, true_or, or_true, true_and, and_true]; first | done | omega) | with_reducible exact True.intro))) | (with_reducible refine zO_ifp ?hc ?_; case hc => (first | omega | (simp (disch := omega) only [zst_ne, zst_s, zup_eq, zup_ne, Int.toNat_natCast, not_true_eq_false, not_false_eq_true, true_or, or_true, true_and, and_true]; first | done | omega) | with_reducible exact True.intro)) | (with_reducible refine zO_ifn ?hc ?_; case hc => (first | omega | (simp (disch := omega) only [zst_ne, zst_s, zup_eq, zup_ne, Int.toNat_natCast, not_true_eq_false, not_false_eq_true, true_or, or_true, true_and, and_true]; first | done | omega) | with_reducible exact True.intro)) | fail)
    refine zO_inl ⟨by dsimp only; omega, (hfr.tr (h2.mono (by decide))).st (by decide), ?_, ?_⟩
    · dsimp only
      exact h4.fr2 (l := [126]) (zFr_refl.st (by decide)) (by decide)
    · intro c hc
      dsimp only
      rw [zst_r]
      by_cases h : c = j
      · rw [if_pos ⟨rfl, h⟩, h1, h]; rfl
      · rw [if_neg (fun h' => h h'.2), h2 126 (by decide)]
        exact hI c (by omega)
  · rintro ⟨y, M'⟩ hc ⟨hfr, hv, hI⟩
    simp only at hc
    subst hc
    dsimp only
    rw [gb_X11_findLives_7]
    repeat' (first | (with_reducible refine zO_lt ?_) | (with_reducible refine zO_gd ?hc ?_; case hc => (first | omega | (simp (disch := omega) only [zst_ne, zst_s, zup_eq, zup_ne, Int.toNat_natCast, not_true_eq_false, not_false_eq_true, true_or, or_true, true_and, and_true]; first | done | omega) | with_reducible exact True.intro)) | (with_reducible refine zO_brp ?ha ?hb ?hc ?_; (case ha => (first | omega | (simp (disch := omega) only [zst_ne, zst_s, zup_eq, zup_ne, Int.toNat_natCast, not_true_eq_false, not_false_eq_true, true_or, or_true, true_and, and_true]; first | done | omega) | with_reducible exact True.intro)); (case hb => (first | omega | (simp (disch := omega) only [zst_ne, zst_s, zup_eq, zup_ne, Int.toNat_natCast, not_true_eq_false, not_false_eq_true, true_or, or_true, true_and, and_true]; first | done | omega) | with_reducible exact True.intro)); (case hc => (first | omega | (simp (disch := omega) only [zst_ne, zst_s, zup_eq, zup_ne, Int.toNat_natCast, not_true_eq_false, not_false_eq_true, true_or, or_true, true_and, and_true]; first | done | omega) | with_reducible exact True.intro))) | (with_reducible refine zO_brn ?ha ?hb ?hc ?_; (case ha => (first | omega | (simp (disch := omega) only [zst_ne, zst_s, zup_eq, zup_ne, Int.toNat_natCast, not_true_eq_false, not_false_eq_true, true_or, or_true, true_and, and_true]; first | done | omega) | with_reducible exact True.intro)); (case hb => (first | omega | (simp (disch := omega) only [zst_ne, zst_s, zup_eq, zup_ne, Int.toNat_natCast, not_true_eq_false, not_false_eq_true, true_or, or_true, true_and, and_true]; first | done | omega) | with_reducible exact True.intro)); (case hc => (first | omega | (simp (disch := omega) only [zst_ne, zst_s, zup_eq, zup_ne, Int.toNat_natCast, not_true_eq_false, not_false_eq_true, true_or, or_true, true_and, and_true]; first | done | omega) | with_reducible exact True.intro))) | simp (disch := omega) only [zst_ne, zst_s, zup_eq, zup_ne, Int.toNat_natCast, not_true_eq_false, not_false_eq_true, true_or, or_true, true_and, and_true] | (with_reducible refine zO_br ?ha ?hb (fun _ => ?_) (fun _ => ?_); (case ha => (first | omega | (simp (disch := omega) only [zst_ne, zst_s, zup_eq, zup_ne, Int.toNat_natCast, not_true_eq_false, not_false_eq_true, true_or, or_true, true_and, and_true]; first | done | omega) | with_reducible exact True.intro)); (case hb => (first | omega | (simp (disch := omega) only [zst_ne, zst_s, zup_eq, zup_ne, Int.toNat_natCast, not_true_eq_false, not_false_eq_true, true_or, or_true, true_and, and_true]; first | done | omega) | with_reducible exact True.intro))) | (with_reducible refine zO_ifp ?hc ?_; case hc => (first | omega | (simp (disch := omega) only [zst_ne, zst_s, zup_eq, zup_ne, Int.toNat_natCast, not_true_eq_false, not_false_eq_true, true_or, or_true, true_and, and_true]; first | done | omega) | with_reducible exact True.intro)) | (with_reducible refine zO_ifn ?hc ?_; case hc => (first | omega | (simp (disch := omega) only [zst_ne, zst_s, zup_eq, zup_ne, Int.toNat_natCast, not_true_eq_false, not_false_eq_true, true_or, or_true, true_and, and_true]; first | done | omega) | with_reducible exact True.intro)) | fail)
    exact zO_inr (zO_some ⟨qA.tr (zQm.of hfr (by decide)), hv, hI⟩)
/-- LIVE together, by AGES -/
def zsumL (E : zE) (M : zM) (f : Nat) (n : Nat) (c : Nat) : Int := zsum n (fun d => zlv E M (f + d) c)
def zsumT (E : zE) (M : zM) (f : Nat) (n : Nat) : Int := zsum n (fun d => zto E M (f + d))
theorem g11_live {i L : Nat} {M : zM} {E : zE} {f t : Nat} {c : Nat} (hs : zSt i L M E) (hc : c < 256) (ht : t < 100) (hft : f ≤ t) : zO (g_X11_findLive (zKn i) (c : Int) (f : Int) (t : Int) M) (fun M' => zQm M M' ∧ M' 76 59 = zsumL E M f (t + 1 - f) c ∧ M' 76 60 = zsumT E M f (t + 1 - f)) := by
  unfold g_X11_findLive
  refine zO_b1q (g11_ground' hs) ?_
  rintro A ⟨qA, gA, _⟩
  refine zO_lt (zO_lt ?_)
  generalize hB : zst (zst A 76 59 0) 76 60 0 = B
  have fB : zFr [76] A B := by rw [← hB]; exact (zFr_refl.st (by decide)).st (by decide)
  have xB : ∀ x, x ≠ 59 → x ≠ 60 → B 76 x = A 76 x := fun x h1 h2 => by rw [← hB, zst_ns h2, zst_ns h1]
  have qB : zQm A B := ⟨fun q h1 h2 => fB q (by simp; omega), fun x hx => xB x (by omega) (by omega)⟩
  have hsB := (hs.qm qA).qm qB
  have gB : zGM B (eF E) := gA.fr (fun q x y => fB q (by simp; omega)) (fB 82 (by decide)) (fB 83 (by decide))
  have hg : zgm E B = zgm E M := (zgm_qm qB).trans (zgm_qm qA)
  refine zO_b1 ?_
  unfold zw2
  refine zO_for (fun s => s.1) (t + 1) (fun j s => f ≤ j ∧ zQm B s.2 ∧ zGM s.2 (eF E) ∧ s.2 76 59 = zsumL E M f (j - f) c ∧ s.2 76 60 = zsumT E M f (j - f)) ?_ ?_ (by omega) f (by omega) rfl ⟨Nat.le_refl f, zQm.rf, gB, ?_, ?_⟩
  · rintro j ⟨y, M'⟩ hj hc' ⟨hfj, hq, hgm, h1, h2⟩
    simp only at hc' hq hgm h1 h2
    subst hc'
    have hs' := hsB.qm hq
    dsimp only
    rw [gb_X11_findLive_17]
    repeat' (first | (with_reducible refine zO_lt ?_) | (with_reducible refine zO_gd ?hc ?_; case hc => (first | omega | (simp (disch := omega) only [zst_ne, zst_s, zup_eq, zup_ne, Int.toNat_natCast, not_true_eq_false, not_false_eq_true, true_or, or_true, true_and, and_true]; first | done | omega) | with_reducible exact True.intro)) | (with_reducible refine zO_brp ?ha ?hb ?hc ?_; (case ha => (first | omega | (simp (disch := omega) only [zst_ne, zst_s, zup_eq, zup_ne, Int.toNat_natCast, not_true_eq_false, not_false_eq_true, true_or, or_true, true_and, and_true]; first | done | omega) | with_reducible exact True.intro)); (case hb => (first | omega | (simp (disch := omega) only [zst_ne, zst_s, zup_eq, zup_ne, Int.toNat_natCast, not_true_eq_false, not_false_eq_true, true_or, or_true, true_and, and_true]; first | done | omega) | with_reducible exact True.intro)); (case hc => (first | omega | (simp (disch := omega) only [zst_ne, zst_s, zup_eq, zup_ne, Int.toNat_natCast, not_true_eq_false, not_false_eq_true, true_or, or_true, true_and, and_true]; first | done | omega) | with_reducible exact True.intro))) | (with_reducible refine zO_brn ?ha ?hb ?hc ?_; (case ha => (first | omega | (simp (disch := omega) only [zst_ne, zst_s, zup_eq, zup_ne, Int.toNat_natCast, not_true_eq_false, not_false_eq_true, true_or, or_true, true_and, and_true]; first | done | omega) | with_reducible exact True.intro)); (case hb => (first | omega | (simp (disch := omega) only [zst_ne, zst_s, zup_eq, zup_ne, Int.toNat_natCast, not_true_eq_false, not_false_eq_true, true_or, or_true, true_and, and_true]; first | done | omega) | with_reducible exact True.intro)); (case hc => (first | omega | (simp (disch := omega) only [zst_ne, zst_s, zup_eq, zup_ne, Int.toNat_natCast, not_true_eq_false, not_false_eq_true, true_or, or_true, true_and, and_true]; first | done | omega) | with_reducible exact True.intro))) | simp (disch := omega) only [zst_ne, zst_s, zup_eq, zup_ne, Int.toNat_natCast, not_true_eq_false, not_false_eq_true, true_or, or_true, true_and, and_true] | (with_reducible refine zO_br ?ha ?hb (fun _ => ?_) (fun _ => ?_); (case ha => (first | omega | (simp (disch := omega) only [zst_ne, zst_s, zup_eq, zup_ne, Int.toNat_natCast, not_true_eq_false, not_false_eq_true, true_or, or_true, true_and, and_true]; first | done | omega) | with_reducible exact True.intro)); (case hb => (first | omega | (simp (disch := omega) only [zst_ne, zst_s, zup_eq, zup_ne, Int.toNat_natCast, not_true_eq_false, not_false_eq_true, true_or, or_true, true_and, and_true]; first | done | omega) | with_reducible exact True.intro))) | (with_reducible refine zO_ifp ?hc ?_; case hc => (first | omega | (simp (disch := omega) only [zst_ne, zst_s, zup_eq, zup_ne, Int.toNat_natCast, not_true_eq_false, not_false_eq_true, true_or, or_true, true_and, and_true]; first | done | omega) | with_reducible exact True.intro)) | (with_reducible refine zO_ifn ?hc ?_; case hc => (first | omega | (simp (disch := omega) only [zst_ne, zst_s, zup_eq, zup_ne, Int.toNat_natCast, not_true_eq_false, not_false_eq_true, true_or, or_true, true_and, and_true]; first | done | omega) | with_reducible exact True.intro)) | fail)
    refine zO_b1q (g11_land' (a := j) hs' hgm (by omega)) ?_
    rintro C ⟨qC, vC, fC, xC⟩
    have hsC := hs'.qm qC
    have hgC : zgm E C = zgm E M := by rw [zgm_qm qC, zgm_qm hq, hg]
    refine zO_b1q (Q := fun D => zQm C D ∧ zMw D E j ∧ D 76 59 = C 76 59 + zlv E M j c ∧ D 76 60 = C 76 60 + zto E M j) ?_ ?_
    · unfold zw2
      refine zO_for (fun s => s.1) 256 (fun x s => zQm C s.2 ∧ zMw s.2 E j ∧ s.2 76 59 = C 76 59 + (if c < x then zlv E M j c else 0) ∧ s.2 76 60 = C 76 60 + zsum x (zlv E M j)) ?_ ?_ (by omega) 0 (by omega) rfl ⟨zQm.rf, vC, by rw [if_neg (by omega)]; dsimp only; omega, by simp [zsum]⟩
      · rintro x ⟨y, D⟩ hx hc' ⟨hqD, hvD, e1, e2⟩
        simp only at hc' hqD hvD e1 e2
        subst hc'
        have hby := g11_by (kind := 2) (c := (x : Int)) (hsC.qm hqD) hvD (by omega) ⟨by omega, by omega⟩ (Or.inl rfl)
        rw [zgm_qm hqD, hgC, sBy_2, Int.toNat_natCast] at hby
        have hr := sLiv_r hs.1 (m := zgm E M) (lv := eV E j) (age := j) (c := x)
        dsimp only
        rw [gb_X11_findLive_32]
        repeat' (first | (with_reducible refine zO_lt ?_) | (with_reducible refine zO_gd ?hc ?_; case hc => (first | omega | (simp (disch := omega) only [zst_ne, zst_s, zup_eq, zup_ne, Int.toNat_natCast, not_true_eq_false, not_false_eq_true, true_or, or_true, true_and, and_true]; first | done | omega) | with_reducible exact True.intro)) | (with_reducible refine zO_brp ?ha ?hb ?hc ?_; (case ha => (first | omega | (simp (disch := omega) only [zst_ne, zst_s, zup_eq, zup_ne, Int.toNat_natCast, not_true_eq_false, not_false_eq_true, true_or, or_true, true_and, and_true]; first | done | omega) | with_reducible exact True.intro)); (case hb => (first | omega | (simp (disch := omega) only [zst_ne, zst_s, zup_eq, zup_ne, Int.toNat_natCast, not_true_eq_false, not_false_eq_true, true_or, or_true, true_and, and_true]; first | done | omega) | with_reducible exact True.intro)); (case hc => (first | omega | (simp (disch := omega) only [zst_ne, zst_s, zup_eq, zup_ne, Int.toNat_natCast, not_true_eq_false, not_false_eq_true, true_or, or_true, true_and, and_true]; first | done | omega) | with_reducible exact True.intro))) | (with_reducible refine zO_brn ?ha ?hb ?hc ?_; (case ha => (first | omega | (simp (disch := omega) only [zst_ne, zst_s, zup_eq, zup_ne, Int.toNat_natCast, not_true_eq_false, not_false_eq_true, true_or, or_true, true_and, and_true]; first | done | omega) | with_reducible exact True.intro)); (case hb => (first | omega | (simp (disch := omega) only [zst_ne, zst_s, zup_eq, zup_ne, Int.toNat_natCast, not_true_eq_false, not_false_eq_true, true_or, or_true, true_and, and_true]; first | done | omega) | with_reducible exact True.intro)); (case hc => (first | omega | (simp (disch := omega) only [zst_ne, zst_s, zup_eq, zup_ne, Int.toNat_natCast, not_true_eq_false, not_false_eq_true, true_or, or_true, true_and, and_true]; first | done | omega) | with_reducible exact True.intro))) | simp (disch := omega) only [zst_ne, zst_s, zup_eq, zup_ne, Int.toNat_natCast, not_true_eq_false, not_false_eq_true, true_or, or_true, true_and, and_true] | (with_reducible refine zO_br ?ha ?hb (fun _ => ?_) (fun _ => ?_); (case ha => (first | omega | (simp (disch := omega) only [zst_ne, zst_s, zup_eq, zup_ne, Int.toNat_natCast, not_true_eq_false, not_false_eq_true, true_or, or_true, true_and, and_true]; first | done | omega) | with_reducible exact True.intro)); (case hb => (first | omega | (simp (disch := omega) only [zst_ne, zst_s, zup_eq, zup_ne, Int.toNat_natCast, not_true_eq_false, not_false_eq_true, true_or, or_true, true_and, and_true]; first | done | omega) | with_reducible exact True.intro))) | (with_reducible refine zO_ifp ?hc ?_; case hc => (first | omega | (simp (disch := omega) only [zst_ne, zst_s, zup_eq, zup_ne, Int.toNat_natCast, not_true_eq_false, not_false_eq_true, true_or, or_true, true_and, and_true]; first | done | omega) | with_reducible exact True.intro)) | (with_reducible refine zO_ifn ?hc ?_; case hc => (first | omega | (simp (disch := omega) only [zst_ne, zst_s, zup_eq, zup_ne, Int.toNat_natCast, not_true_eq_false, not_false_eq_true, true_or, or_true, true_and, and_true]; first | done | omega) | with_reducible exact True.intro)) | fail)
        refine zO_bdq hby ?_
        rintro G v ⟨g1, g2, g3, g4⟩
        dsimp only at g1 g2 g3 g4
        have g76 : G 76 = D 76 := g2 76 (by decide)
        have hv : v = zlv E M j x := g1
        repeat' (first | (with_reducible refine zO_lt ?_) | (with_reducible refine zO_gd ?hc ?_; case hc => (first | omega | (simp (disch := omega) only [zst_ne, zst_s, zup_eq, zup_ne, Int.toNat_natCast, not_true_eq_false, not_false_eq_true, true_or, or_true, true_and, and_true]; first | done | omega) | with_reducible exact True.intro)) | (with_reducible refine zO_brp ?ha ?hb ?hc ?_; (case ha => (first | omega | (simp (disch := omega) only [zst_ne, zst_s, zup_eq, zup_ne, Int.toNat_natCast, not_true_eq_false, not_false_eq_true, true_or, or_true, true_and, and_true]; first | done | omega) | with_reducible exact True.intro)); (case hb => (first | omega | (simp (disch := omega) only [zst_ne, zst_s, zup_eq, zup_ne, Int.toNat_natCast, not_true_eq_false, not_false_eq_true, true_or, or_true, true_and, and_true]; first | done | omega) | with_reducible exact True.intro)); (case hc => (first | omega | (simp (disch := omega) only [zst_ne, zst_s, zup_eq, zup_ne, Int.toNat_natCast, not_true_eq_false, not_false_eq_true, true_or, or_true, true_and, and_true]; first | done | omega) | with_reducible exact True.intro))) | (with_reducible refine zO_brn ?ha ?hb ?hc ?_; (case ha => (first | omega | (simp (disch := omega) only [zst_ne, zst_s, zup_eq, zup_ne, Int.toNat_natCast, not_true_eq_false, not_false_eq_true, true_or, or_true, true_and, and_true]; first | done | omega) | with_reducible exact True.intro)); (case hb => (first | omega | (simp (disch := omega) only [zst_ne, zst_s, zup_eq, zup_ne, Int.toNat_natCast, not_true_eq_false, not_false_eq_true, true_or, or_true, true_and, and_true]; first | done | omega) | with_reducible exact True.intro)); (case hc => (first | omega | (simp (disch := omega) only [zst_ne, zst_s, zup_eq, zup_ne, Int.toNat_natCast, not_true_eq_false, not_false_eq_true, true_or, or_true, true_and, and_true]; first | done | omega) | with_reducible exact True.intro))) | simp (disch := omega) only [zst_ne, zst_s, zup_eq, zup_ne, Int.toNat_natCast, not_true_eq_false, not_false_eq_true, true_or, or_true, true_and, and_true] | (with_reducible refine zO_br ?ha ?hb (fun _ => ?_) (fun _ => ?_); (case ha => (first | omega | (simp (disch := omega) only [zst_ne, zst_s, zup_eq, zup_ne, Int.toNat_natCast, not_true_eq_false, not_false_eq_true, true_or, or_true, true_and, and_true]; first | done | omega) | with_reducible exact True.intro)); (case hb => (first | omega | (simp (disch := omega) only [zst_ne, zst_s, zup_eq, zup_ne, Int.toNat_natCast, not_true_eq_false, not_false_eq_true, true_or, or_true, true_and, and_true]; first | done | omega) | with_reducible exact True.intro))) | (with_reducible refine zO_ifp ?hc ?_; case hc => (first | omega | (simp (disch := omega) only [zst_ne, zst_s, zup_eq, zup_ne, Int.toNat_natCast, not_true_eq_false, not_false_eq_true, true_or, or_true, true_and, and_true]; first | done | omega) | with_reducible exact True.intro)) | (with_reducible refine zO_ifn ?hc ?_; case hc => (first | omega | (simp (disch := omega) only [zst_ne, zst_s, zup_eq, zup_ne, Int.toNat_natCast, not_true_eq_false, not_false_eq_true, true_or, or_true, true_and, and_true]; first | done | omega) | with_reducible exact True.intro)) | fail)
        · refine zO_inl ⟨by dsimp only; omega, ?_, ?_, ?_, ?_⟩
          · refine hqD.tr (g3.tr ⟨fun q h1 h2 => ?_, fun x hx => ?_⟩)
            · dsimp only; rw [zst_ne h1, zst_ne h1]
            · dsimp only; rw [zst_ns (by omega), zst_ns (by omega)]
          · dsimp only
            exact g4.fr (fun q hq => by rw [zst_ne (by omega), zst_ne (by omega)]) (by rw [zst_ns (by omega), zst_ns (by omega)]) (by rw [zst_ns (by omega), zst_ns (by omega)])
          · dsimp only
            simp (disch := omega) only [zst_ne, zst_s, zup_eq, zup_ne, Int.toNat_natCast, not_true_eq_false, not_false_eq_true, true_or, or_true, true_and, and_true]
            rw [g76, e1]
            by_cases h : c < x
            · rw [if_pos h, if_pos (by omega)]; omega
            · rw [if_neg h, if_neg (by omega)]; omega
          · dsimp only
            simp (disch := omega) only [zst_ne, zst_s, zup_eq, zup_ne, Int.toNat_natCast, not_true_eq_false, not_false_eq_true, true_or, or_true, true_and, and_true]
            rw [g76, e2, zsum_s, hv]
            omega
        · refine zO_inl ⟨by dsimp only; omega, ?_, ?_, ?_, ?_⟩
          · refine hqD.tr (g3.tr ⟨fun q h1 h2 => ?_, fun x hx => ?_⟩)
            · dsimp only; rw [zst_ne h1, zst_ne h1]
            · dsimp only; rw [zst_ns (by omega), zst_ns (by omega)]
          · dsimp only
            exact g4.fr (fun q hq => by rw [zst_ne (by omega), zst_ne (by omega)]) (by rw [zst_ns (by omega), zst_ns (by omega)]) (by rw [zst_ns (by omega), zst_ns (by omega)])
          · dsimp only
            simp (disch := omega) only [zst_ne, zst_s, zup_eq, zup_ne, Int.toNat_natCast, not_true_eq_false, not_false_eq_true, true_or, or_true, true_and, and_true]
            have hxc : x = c := by omega
            rw [g76, e1, if_neg (by omega), if_pos (by omega), hv, hxc]
            omega
          · dsimp only
            simp (disch := omega) only [zst_ne, zst_s, zup_eq, zup_ne, Int.toNat_natCast, not_true_eq_false, not_false_eq_true, true_or, or_true, true_and, and_true]
            rw [g76, e2, zsum_s, hv]
            omega
      · rintro ⟨y, D⟩ hc' ⟨hqD, hvD, e1, e2⟩
        simp only at hc' e1 e2
        subst hc'
        dsimp only
        rw [gb_X11_findLive_32]
        repeat' (first | (with_reducible refine zO_lt ?_) | (with_reducible refine zO_gd ?hc ?_; case hc => (first | omega | (simp (disch := omega) only [zst_ne, zst_s, zup_eq, zup_ne, Int.toNat_natCast, not_true_eq_false, not_false_eq_true, true_or, or_true, true_and, and_true]; first | done | omega) | with_reducible exact True.intro)) | (with_reducible refine zO_brp ?ha ?hb ?hc ?_; (case ha => (first | omega | (simp (disch := omega) only [zst_ne, zst_s, zup_eq, zup_ne, Int.toNat_natCast, not_true_eq_false, not_false_eq_true, true_or, or_true, true_and, and_true]; first | done | omega) | with_reducible exact True.intro)); (case hb => (first | omega | (simp (disch := omega) only [zst_ne, zst_s, zup_eq, zup_ne, Int.toNat_natCast, not_true_eq_false, not_false_eq_true, true_or, or_true, true_and, and_true]; first | done | omega) | with_reducible exact True.intro)); (case hc => (first | omega | (simp (disch := omega) only [zst_ne, zst_s, zup_eq, zup_ne, Int.toNat_natCast, not_true_eq_false, not_false_eq_true, true_or, or_true, true_and, and_true]; first | done | omega) | with_reducible exact True.intro))) | (with_reducible refine zO_brn ?ha ?hb ?hc ?_; (case ha => (first | omega | (simp (disch := omega) only [zst_ne, zst_s, zup_eq, zup_ne, Int.toNat_natCast, not_true_eq_false, not_false_eq_true, true_or, or_true, true_and, and_true]; first | done | omega) | with_reducible exact True.intro)); (case hb => (first | omega | (simp (disch := omega) only [zst_ne, zst_s, zup_eq, zup_ne, Int.toNat_natCast, not_true_eq_false, not_false_eq_true, true_or, or_true, true_and, and_true]; first | done | omega) | with_reducible exact True.intro)); (case hc => (first | omega | (simp (disch := omega) only [zst_ne, zst_s, zup_eq, zup_ne, Int.toNat_natCast, not_true_eq_false, not_false_eq_true, true_or, or_true, true_and, and_true]; first | done | omega) | with_reducible exact True.intro))) | simp (disch := omega) only [zst_ne, zst_s, zup_eq, zup_ne, Int.toNat_natCast, not_true_eq_false, not_false_eq_true, true_or, or_true, true_and, and_true] | (with_reducible refine zO_br ?ha ?hb (fun _ => ?_) (fun _ => ?_); (case ha => (first | omega | (simp (disch := omega) only [zst_ne, zst_s, zup_eq, zup_ne, Int.toNat_natCast, not_true_eq_false, not_false_eq_true, true_or, or_true, true_and, and_true]; first | done | omega) | with_reducible exact True.intro)); (case hb => (first | omega | (simp (disch := omega) only [zst_ne, zst_s, zup_eq, zup_ne, Int.toNat_natCast, not_true_eq_false, not_false_eq_true, true_or, or_true, true_and, and_true]; first | done | omega) | with_reducible exact True.intro))) | (with_reducible refine zO_ifp ?hc ?_; case hc => (first | omega | (simp (disch := omega) only [zst_ne, zst_s, zup_eq, zup_ne, Int.toNat_natCast, not_true_eq_false, not_false_eq_true, true_or, or_true, true_and, and_true]; first | done | omega) | with_reducible exact True.intro)) | (with_reducible refine zO_ifn ?hc ?_; case hc => (first | omega | (simp (disch := omega) only [zst_ne, zst_s, zup_eq, zup_ne, Int.toNat_natCast, not_true_eq_false, not_false_eq_true, true_or, or_true, true_and, and_true]; first | done | omega) | with_reducible exact True.intro)) | fail)
        rw [if_pos hc] at e1
        exact zO_inr ⟨hqD, hvD, e1, e2⟩
    · rintro D ⟨qD, vD, e1, e2⟩
      refine zO_lt (zO_inl ⟨by dsimp only; omega, by omega, hq.tr (qC.tr qD), vD.1, ?_, ?_⟩)
      · dsimp only
        rw [e1, xC 59 (by omega) (by omega), h1, show j + 1 - f = (j - f) + 1 by omega]
        unfold zsumL
        rw [zsum_s, show f + (j - f) = j by omega]
      · dsimp only
        rw [e2, xC 60 (by omega) (by omega), h2, show j + 1 - f = (j - f) + 1 by omega]
        unfold zsumT
        rw [zsum_s, show f + (j - f) = j by omega]
  · rintro ⟨y, M'⟩ hc' ⟨_, hq, hgm, h1, h2⟩
    simp only at hc' hq hgm h1 h2
    subst hc'
    dsimp only
    rw [gb_X11_findLive_17]
    repeat' (first | (with_reducible refine zO_lt ?_) | (with_reducible refine zO_gd ?hc ?_; case hc => (first | omega | (simp (disch := omega) only [zst_ne, zst_s, zup_eq, zup_ne, Int.toNat_natCast, not_true_eq_false, not_false_eq_true, true_or, or_true, true_and, and_true]; first | done | omega) | with_reducible exact True.intro)) | (with_reducible refine zO_brp ?ha ?hb ?hc ?_; (case ha => (first | omega | (simp (disch := omega) only [zst_ne, zst_s, zup_eq, zup_ne, Int.toNat_natCast, not_true_eq_false, not_false_eq_true, true_or, or_true, true_and, and_true]; first | done | omega) | with_reducible exact True.intro)); (case hb => (first | omega | (simp (disch := omega) only [zst_ne, zst_s, zup_eq, zup_ne, Int.toNat_natCast, not_true_eq_false, not_false_eq_true, true_or, or_true, true_and, and_true]; first | done | omega) | with_reducible exact True.intro)); (case hc => (first | omega | (simp (disch := omega) only [zst_ne, zst_s, zup_eq, zup_ne, Int.toNat_natCast, not_true_eq_false, not_false_eq_true, true_or, or_true, true_and, and_true]; first | done | omega) | with_reducible exact True.intro))) | (with_reducible refine zO_brn ?ha ?hb ?hc ?_; (case ha => (first | omega | (simp (disch := omega) only [zst_ne, zst_s, zup_eq, zup_ne, Int.toNat_natCast, not_true_eq_false, not_false_eq_true, true_or, or_true, true_and, and_true]; first | done | omega) | with_reducible exact True.intro)); (case hb => (first | omega | (simp (disch := omega) only [zst_ne, zst_s, zup_eq, zup_ne, Int.toNat_natCast, not_true_eq_false, not_false_eq_true, true_or, or_true, true_and, and_true]; first | done | omega) | with_reducible exact True.intro)); (case hc => (first | omega | (simp (disch := omega) only [zst_ne, zst_s, zup_eq, zup_ne, Int.toNat_natCast, not_true_eq_false, not_false_eq_true, true_or, or_true, true_and, and_true]; first | done | omega) | with_reducible exact True.intro))) | simp (disch := omega) only [zst_ne, zst_s, zup_eq, zup_ne, Int.toNat_natCast, not_true_eq_false, not_false_eq_true, true_or, or_true, true_and, and_true] | (with_reducible refine zO_br ?ha ?hb (fun _ => ?_) (fun _ => ?_); (case ha => (first | omega | (simp (disch := omega) only [zst_ne, zst_s, zup_eq, zup_ne, Int.toNat_natCast, not_true_eq_false, not_false_eq_true, true_or, or_true, true_and, and_true]; first | done | omega) | with_reducible exact True.intro)); (case hb => (first | omega | (simp (disch := omega) only [zst_ne, zst_s, zup_eq, zup_ne, Int.toNat_natCast, not_true_eq_false, not_false_eq_true, true_or, or_true, true_and, and_true]; first | done | omega) | with_reducible exact True.intro))) | (with_reducible refine zO_ifp ?hc ?_; case hc => (first | omega | (simp (disch := omega) only [zst_ne, zst_s, zup_eq, zup_ne, Int.toNat_natCast, not_true_eq_false, not_false_eq_true, true_or, or_true, true_and, and_true]; first | done | omega) | with_reducible exact True.intro)) | (with_reducible refine zO_ifn ?hc ?_; case hc => (first | omega | (simp (disch := omega) only [zst_ne, zst_s, zup_eq, zup_ne, Int.toNat_natCast, not_true_eq_false, not_false_eq_true, true_or, or_true, true_and, and_true]; first | done | omega) | with_reducible exact True.intro)) | fail)
    exact zO_inr (zO_some ⟨(qA.tr qB).tr hq, h1, h2⟩)
  · dsimp only
    rw [Nat.sub_self, ← hB]
    simp (disch := omega) only [zst_ne, zst_s, zup_eq, zup_ne, Int.toNat_natCast, not_true_eq_false, not_false_eq_true, true_or, or_true, true_and, and_true]
    rfl
  · dsimp only
    rw [Nat.sub_self, ← hB, zst_eq]
    rfl

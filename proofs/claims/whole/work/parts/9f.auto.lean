/-! law: the reference's condition, as the parser says -/
abbrev zQC (i : Nat) (P : zM → Prop) : (zM ⊕ zM) → Prop := zEl (fun a => zO (zb1 (g_X11_errs (zKn i) a) (fun M16 => some M16)) P) (fun r => zO (some r) P)
def mOP (i : Nat) (P : zM → Prop) (f : Nat) (y : Int) (M : zM) : Prop := zO (zwh (fun t : Int × zM => gb_X11_readCondition_14 (zKn i) t.1 t.2) f (y, M)) (zQC i P)
def zC3 (i : Nat) (P : zM → Prop) (f : Nat) (r : zM × Int) : Prop := (r.2 = 0 ∧ mOP i P f 0 r.1) ∨ (r.2 = 1 ∧ mOP i P f 1 r.1)
abbrev zC2 (i : Nat) (P : zM → Prop) (f : Nat) : (zM ⊕ (zM × Int)) → Prop := zEl (fun a => zO (k20 (zKn i) a) (zC3 i P f)) (fun r => zO (some r) (zC3 i P f))
abbrev zC1 (i : Nat) (P : zM → Prop) (f g : Nat) : ((Int × zM) ⊕ (zM ⊕ (zM × Int))) → Prop := zEl (fun s' : Int × zM => zO (zwh (fun t : Int × zM => gb_X11_closes_2 (zKn i) t.1 t.2) g s') (zC2 i P f)) (zC2 i P f)
def mCL (i : Nat) (P : zM → Prop) (f g h : Nat) (M : zM) : Prop := zO (zb1 (zwh (fun t => gb_X11_closes_13 (zKn i) t) h M) (kRest (zKn i))) (zC1 i P f g)
theorem mOP_0 {i : Nat} {P : zM → Prop} {f : Nat} {M : zM} (h : P M) : mOP i P (f + 1) 0 M := by
  refine zO_wh1 ?_
  show zO (gb_X11_readCondition_14 (zKn i) 0 M) _
  rw [gb_X11_readCondition_14]
  exact zO_brp (by omega) (by omega) rfl (zO_inr (show zO _ _ from zO_some h))
theorem mCL_2 {i : Nat} {P : zM → Prop} {f g : Nat} {M : zM} (h5 : M 76 42 = 0) (h : mCL i P f g zfu M) : zO (zwh (fun t : Int × zM => gb_X11_closes_2 (zKn i) t.1 t.2) (g + 1) (1, M)) (zC2 i P f) := by
  refine zO_wh1 ?_
  show zO (gb_X11_closes_2 (zKn i) 1 M) _
  rw [k_closes_2, h5]
  exact zO_brn (by omega) (by omega) (by omega) (zO_brn (by omega) (by omega) (by omega) h)
theorem mCL_cl {i : Nat} {P : zM → Prop} {f : Nat} {M : zM} (h5 : M 76 42 = 0) (h : mCL i P f 999999 zfu M) : zO (g_X11_closes (zKn i) M) (zC3 i P f) := by
  rw [k_closes]
  exact zO_sp1 (mCL_2 (g := 999999) h5 h)
/-- what stands open, and what is joined -/
def zSk (o : Nat) (op jo : Nat → Int) (M : zM) : Prop := M 76 45 = (o : Int) ∧ (∀ q, q < o → M 109 q = op q) ∧ ∀ q, q ≤ o → M 110 q = jo q
theorem zSk.fr {o : Nat} {op jo : Nat → Int} {M M' : zM} (h : zSk o op jo M) (e1 : M' 76 45 = M 76 45) (e2 : M' 109 = M 109) (e3 : M' 110 = M 110) : zSk o op jo M' := by
  unfold zSk at *
  rw [e1, e2, e3]
  exact h
theorem m_pop0 {i o : Nat} {P : zM → Prop} {op jo : Nat → Int} {f g h : Nat} {M : zM} (hK : zSk o op jo M) (ho : o ≤ 10) (hop : o = 0 ∨ op (o - 1) = 2) (hh : 1 ≤ h) (H : zO (kRest (zKn i) M) (zC1 i P f g)) : mCL i P f g h M := by
  obtain ⟨h, rfl⟩ : ∃ t, h = t + 1 := ⟨h - 1, by omega⟩
  unfold mCL
  refine zO_b1 (zO_wh1 ?_)
  show zO (gb_X11_closes_13 (zKn i) M) _
  rw [gb_X11_closes_13, hK.1]
  rcases hop with rfl | hop
  · exact zO_brp (by omega) (by omega) (by omega) (zO_inr H)
  · by_cases o0 : o = 0
    · subst o0
      exact zO_brp (by omega) (by omega) (by omega) (zO_inr H)
    · have e := hK.2.1 (o - 1) (by omega)
      refine zO_brn ⟨by omega, by omega⟩ ⟨by omega, by omega⟩ (by omega) (zO_gd (by omega) ?_)
      rw [show ((o : Int) - 1).toNat = o - 1 by omega, e, hop]
      exact zO_brp (by omega) (by omega) (by omega) (zO_inr H)
theorem m_pop1 {b : Nat → Int} {i n o W x : Nat} {P : zM → Prop} {f g h : Nat} {M : zM} (hn : n ≤ 700) (hS : zMS b n W x M) (hW : W + 1 ≤ 1000 + x) (ho : o ≤ 9) (h1 : M 76 45 = ((o + 1 : Nat) : Int)) (h2 : M 109 o = 1) (H : ∀ M', zFm W M M' → zMS b n (W + 1) x M' → M' 76 45 = (o : Int) → M' 109 = M 109 → M' 110 = M 110 → zMk M' W [(1, 0, 0, 0)] → mCL i P f g h M') : mCL i P f g (h + 1) M := by
  unfold mCL
  refine zO_b1 (zO_wh1 ?_)
  show zO (gb_X11_closes_13 (zKn i) M) _
  rw [gb_X11_closes_13, h1]
  refine zO_brn ⟨by omega, by omega⟩ ⟨by omega, by omega⟩ (by omega) (zO_gd (by omega) ?_)
  rw [show (((o + 1 : Nat) : Int) - 1).toNat = o by omega, h2]
  refine zO_brn (by omega) (by omega) (by omega) (zO_lte (fun A eA => ?_))
  have f1 : zFm W M A := by rw [eA]; exact zFm.of (zFr.st1 (by decide)) (fun s a c d e => zst_ns (by omega))
  have s1 : zMS b n W x A := hS.fr (fun q hq => by rw [eA, zst_ne (by omega)]) (fun s hs => by rw [eA, zst_ns (by omega)]) (by rw [eA, zst_ns (by decide)]; exact hS.2.2.2.2.2.2.1) hS.2.2.2.2.2.2.2.1 hS.2.2.2.2.2.2.2.2.1
  refine zO_b1q (m_step hn s1 hW) ?_
  rintro B ⟨g1, g2, g3, g4, g5, g6, g7, g8, g9⟩
  have H' := H B (f1.tr g1 (Nat.le_refl _)) g2 (by rw [g5, eA, zst_eq]; omega) (by rw [g3, eA, zst_ne (by decide)]) (by rw [g4, eA, zst_ne (by decide)]) ⟨⟨g6, g7, g8, g9⟩, trivial⟩
  unfold mCL at H'
  refine zO_inl ?_
  obtain ⟨u, e1, e2⟩ := H'
  cases hz : zwh (fun t => gb_X11_closes_13 (zKn i) t) h B with
  | none => rw [hz] at e1; cases e1
  | some v => rw [hz] at e1; exact ⟨v, rfl, u, e1, e2⟩
def mS1 (i : Nat) (b : Nat → Int) (n o : Nat) (one : Nat → zPr) : Prop := ∀ (P : zM → Prop) (op jo : Nat → Int) (W x : Nat) (M : zM) (f : Nat), zMS b n W x M → zSk o op jo M → 702 ≤ f + x → (match one x with
  | .inl q => ∀ (M' : zM) (f g h : Nat), zFm W M M' → zMS b n (W + q.1.length) q.2 M' → zSk o op jo M' → zMk M' W q.1 → 702 ≤ f + q.2 → 702 ≤ g + q.2 → o + 1 ≤ h → mCL i P f g h M'
  | .inr e => ∀ M', zFm W M M' → zME b n e M' → P M') → mOP i P f 1 M
def mS2 (i : Nat) (b : Nat → Int) (n o : Nat) (all : Nat → zPr) : Prop := ∀ (P : zM → Prop) (op jo : Nat → Int) (W x : Nat) (M : zM) (f : Nat) (j : Int), zMS b n W x M → zSk o op jo M → (o = 0 ∨ op (o - 1) = 2) → (j = 0 ∨ j = 2) → jo o = j → 702 ≤ f + x → (match all x with
  | .inl q => ∀ (M' : zM) (f g h : Nat) (a : Int) (c' : List zStp), (a = 0 ∨ a = 1) → zFm W M M' → zMS b n (W + c'.length) q.2 M' → zSk o op (zup jo o (j + a)) M' → zMk M' W c' → q.1 = c' ++ (if a = 1 then [(2, 0, 0, 0)] else []) → ¬ wI b n q.2 1111 → 702 ≤ f + q.2 → 702 ≤ g + q.2 → o + 1 ≤ h → mCL i P f g h M'
  | .inr e => ∀ M', zFm W M M' → zME b n e M' → P M') → mOP i P f 1 M
def mS3 (i : Nat) (b : Nat → Int) (n o : Nat) (any : Nat → zPr) : Prop := ∀ (P : zM → Prop) (op jo : Nat → Int) (W x : Nat) (M : zM) (f : Nat), zMS b n W x M → zSk o op jo M → (o = 0 ∨ op (o - 1) = 2) → jo o = 0 → 702 ≤ f + x → (match any x with
  | .inl q => ∀ (M' : zM) (f g h : Nat) (a j : Int) (c' : List zStp), (a = 0 ∨ a = 1) → (j = 0 ∨ j = 2) → zFm W M M' → zMS b n (W + c'.length) q.2 M' → zSk o op (zup jo o (j + a)) M' → zMk M' W c' → q.1 = c' ++ ((if a = 1 then [(2, 0, 0, 0)] else []) ++ (if j = 2 then [(3, 0, 0, 0)] else [])) → ¬ wI b n q.2 1111 → ¬ wI b n q.2 423 → 702 ≤ f + q.2 → 702 ≤ g + q.2 → o + 1 ≤ h → mCL i P f g h M'
  | .inr e => ∀ M', zFm W M M' → zME b n e M' → P M') → mOP i P f 1 M
theorem zup_up {f : Nat → Int} {s : Nat} {v w : Int} : zup (zup f s v) s w = zup f s w := by
  funext j
  unfold zup
  split <;> rfl
theorem zMS.n0 {b : Nat → Int} {n W x : Nat} {M : zM} {h : Int} (hS : zMS b n W x M) (hx : n ≤ x) : ¬ wI b n x h := by
  intro hw
  have hE := yE_r (b := b) hS.2.2.2.2.2.2.2.2.2
  have hA := yA_r (b := b) hS.2.2.2.2.2.2.2.2.2
  have := hE.2.2.1 (by have := hw.1; omega)
  omega
/-- behind "and": what was joined is written, and the next one is read -/
theorem m_and {b : Nat → Int} {i n o W x : Nat} {P : zM → Prop} {op jo : Nat → Int} {j a : Int} {c' : List zStp} {f g h : Nat} {M : zM} (hn : n ≤ 700) (ho : o ≤ 9) (hop : o = 0 ∨ op (o - 1) = 2) (hj : j = 0 ∨ j = 2) (ha : a = 0 ∨ a = 1) (hS : zMS b n (W + c'.length) x M) (hK : zSk o op (zup jo o (j + a)) M) (hk : zMk M W c') (hW : W + (c' ++ (if a = 1 then [((2 : Int), (0 : Int), (0 : Int), (0 : Int))] else [])).length ≤ 1000 + x) (hw : wI b n x 1111) (hh : 1 ≤ h) (H : ∀ M', zFm W M M' → zMS b n (W + (c' ++ (if a = 1 then [((2 : Int), (0 : Int), (0 : Int), (0 : Int))] else [])).length) (yE b n x) M' → zSk o op (zup jo o (j + 1)) M' → zMk M' W (c' ++ (if a = 1 then [((2 : Int), (0 : Int), (0 : Int), (0 : Int))] else [])) → mOP i P f 1 M') : mCL i P f g h M := by
  refine m_pop0 hK (by omega) hop hh ?_
  unfold kRest
  refine zO_b1e (m_is hS (by omega)) ?_
  rw [if_pos hw]
  refine zO_brn (by omega) (by omega) (by omega) (zO_some ?_)
  show zO (k20 (zKn i) M) _
  have j1 := hK.2.2 o (Nat.le_refl _)
  rw [zup_eq] at j1
  unfold k20
  rw [hK.1]
  simp only [Int.toNat_natCast, j1]
  refine zO_gd (by omega) (zO_gd (by omega) ?_)
  -- the step, if one waits
  have st : zO (zbr ((j + a) % 2) 1 (¬ (j + a) % 2 = 1) (some M) (zb1 (g_X11_step (zKn i) 2 0 0 0 M) (fun M21 => some M21))) (fun A => zFm W M A ∧ zMS b n (W + (c' ++ (if a = 1 then [((2 : Int), (0 : Int), (0 : Int), (0 : Int))] else [])).length) x A ∧ A 109 = M 109 ∧ A 110 = M 110 ∧ A 76 45 = M 76 45 ∧ zMk A W (c' ++ (if a = 1 then [((2 : Int), (0 : Int), (0 : Int), (0 : Int))] else []))) := by
    rcases ha with rfl | rfl
    · refine zO_brp ⟨by omega, by omega⟩ (by omega) (by omega) (zO_some ?_)
      rw [if_neg (by omega), List.append_nil]
      exact ⟨zFm.rf, hS, rfl, rfl, rfl, hk⟩
    · rw [if_pos rfl, List.length_append, List.length_singleton] at hW
      refine zO_brn ⟨by omega, by omega⟩ (by omega) (by omega) (zO_b1q (m_step hn hS (by omega)) ?_)
      rintro A ⟨g1, g2, g3, g4, g5, g6, g7, g8, g9⟩
      rw [if_pos rfl, List.length_append, List.length_singleton]
      refine zO_some ⟨zFm.rf.tr g1 (by omega), g2, g3, g4, g5, ?_⟩
      rw [zMk_app]
      exact ⟨zMk_c _ _ hk (fun q t x y u v => g1.2.2 q t x y (by omega)), ⟨g6, g7, g8, g9⟩, trivial⟩
  refine zO_b1q st ?_
  generalize c' ++ (if a = 1 then [((2 : Int), (0 : Int), (0 : Int), (0 : Int))] else []) = c at *
  rintro A ⟨g1, g2, g3, g4, g5, g6⟩
  have a110 : A 110 o = j + a := by rw [g4]; exact j1
  rw [g5, hK.1]
  simp only [Int.toNat_natCast, a110]
  refine zO_gd (by omega) (zO_gd (by omega) (zO_gd (by omega) (zO_lte (fun B eB => ?_))))
  have f2 : zFm (W + c.length) A B := by rw [eB]; exact zFm.of (zFr.st1 (by decide)) (fun s _ _ _ _ => by rw [zst_ne (by decide)])
  have s2 : zMS b n (W + c.length) x B := g2.fr (fun q hq => by rw [eB, zst_ne (by omega)]) (fun s hs => by rw [eB, zst_ne (by decide)]) (by rw [eB, zst_ne (by decide)]; exact g2.2.2.2.2.2.2.1) g2.2.2.2.2.2.2.2.1 g2.2.2.2.2.2.2.2.2.1
  refine zO_b1q (m_next hn s2) ?_
  rintro C ⟨k1, k2, k3, k4⟩
  refine zO_some (Or.inr ⟨rfl, H C (g1.tr (f2.tr k1 (Nat.le_refl _)) (by omega)) k4 ⟨?_, fun q hq => ?_, fun q hq => ?_⟩ ?_⟩)
  · rw [k3 45 (by omega), eB, zst_ne (by decide), g5]; exact hK.1
  · rw [k2 109 (by decide), eB, zst_ne (by decide), g3]; exact hK.2.1 q hq
  · rw [k2 110 (by decide), eB]
    by_cases e : q = o
    · subst e
      rw [zst_eq, zup_eq]
      omega
    · rw [zst_ns e, zup_ne e, g4, hK.2.2 q hq, zup_ne e]
  · refine zMk_c _ _ g6 (fun q t x y u v => ?_)
    rw [k2 q (by simp; omega), eB, zst_ne (by omega)]
/-- not "and": what waits is written -/
theorem m_flush {b : Nat → Int} {i n o W x : Nat} {Q : ((Int × zM) ⊕ (zM ⊕ (zM × Int))) → Prop} {op jo : Nat → Int} {j a : Int} {c' : List zStp} {M : zM} (hn : n ≤ 700) (ho : o ≤ 9) (hj : j = 0 ∨ j = 2) (ha : a = 0 ∨ a = 1) (hS : zMS b n (W + c'.length) x M) (hK : zSk o op (zup jo o (j + a)) M) (hk : zMk M W c') (hW : W + (c' ++ ((if a = 1 then [((2 : Int), (0 : Int), (0 : Int), (0 : Int))] else []) ++ (if j = 2 then [((3 : Int), (0 : Int), (0 : Int), (0 : Int))] else []))).length ≤ 1000 + x) (hw : ¬ wI b n x 1111) (H : ∀ M', zFm W M M' → zMS b n (W + (c' ++ ((if a = 1 then [((2 : Int), (0 : Int), (0 : Int), (0 : Int))] else []) ++ (if j = 2 then [((3 : Int), (0 : Int), (0 : Int), (0 : Int))] else []))).length) x M' → zSk o op (zup jo o 0) M' → zMk M' W (c' ++ ((if a = 1 then [((2 : Int), (0 : Int), (0 : Int), (0 : Int))] else []) ++ (if j = 2 then [((3 : Int), (0 : Int), (0 : Int), (0 : Int))] else []))) → zO (kEnd (zKn i) M') Q) : zO (kRest (zKn i) M) Q := by
  unfold kRest
  refine zO_b1e (m_is hS (by omega)) ?_
  rw [if_neg hw]
  have j1 := hK.2.2 o (Nat.le_refl _)
  rw [zup_eq] at j1
  refine zO_brp (by omega) (by omega) (by omega) ?_
  rw [hK.1]
  simp only [Int.toNat_natCast, j1]
  refine zO_gd (by omega) (zO_gd (by omega) ?_)
  have st : zO (zbr ((j + a) % 2) 1 (¬ (j + a) % 2 = 1) (some M) (zb1 (g_X11_step (zKn i) 2 0 0 0 M) (fun M21 => some M21))) (fun A => zFm W M A ∧ zMS b n (W + (c' ++ (if a = 1 then [((2 : Int), (0 : Int), (0 : Int), (0 : Int))] else [])).length) x A ∧ A 109 = M 109 ∧ A 110 = M 110 ∧ A 76 45 = M 76 45 ∧ zMk A W (c' ++ (if a = 1 then [((2 : Int), (0 : Int), (0 : Int), (0 : Int))] else []))) := by
    rcases ha with rfl | rfl
    · refine zO_brp ⟨by omega, by omega⟩ (by omega) (by omega) (zO_some ?_)
      rw [if_neg (by omega), List.append_nil]
      exact ⟨zFm.rf, hS, rfl, rfl, rfl, hk⟩
    · rw [if_pos rfl, List.length_append, List.length_append, List.length_singleton] at hW
      refine zO_brn ⟨by omega, by omega⟩ (by omega) (by omega) (zO_b1q (m_step hn hS (by omega)) ?_)
      rintro A ⟨g1, g2, g3, g4, g5, g6, g7, g8, g9⟩
      rw [if_pos rfl, List.length_append, List.length_singleton]
      refine zO_some ⟨zFm.rf.tr g1 (by omega), g2, g3, g4, g5, ?_⟩
      rw [zMk_app]
      exact ⟨zMk_c _ _ hk (fun q t x y u v => g1.2.2 q t x y (by omega)), ⟨g6, g7, g8, g9⟩, trivial⟩
  refine zO_b1q st ?_
  rw [← List.append_assoc] at hW H
  generalize c' ++ (if a = 1 then [((2 : Int), (0 : Int), (0 : Int), (0 : Int))] else []) = c at *
  rintro A ⟨g1, g2, g3, g4, g5, g6⟩
  have a110 : A 110 o = j + a := by rw [g4]; exact j1
  rw [g5, hK.1]
  simp only [Int.toNat_natCast, a110]
  refine zO_gd (by omega) (zO_gd (by omega) (zO_gd (by omega) (zO_lte (fun B eB => ?_))))
  have f2 : zFm W A B := by rw [eB]; exact zFm.of (zFr.st1 (by decide)) (fun s _ _ _ _ => by rw [zst_ne (by decide)])
  have s2 : zMS b n (W + c.length) x B := g2.fr (fun q hq => by rw [eB, zst_ne (by omega)]) (fun s hs => by rw [eB, zst_ne (by decide)]) (by rw [eB, zst_ne (by decide)]; exact g2.2.2.2.2.2.2.1) g2.2.2.2.2.2.2.2.1 g2.2.2.2.2.2.2.2.2.1
  have b45 : B 76 45 = (o : Int) := by rw [eB, zst_ne (by decide), g5]; exact hK.1
  have b110 : B 110 o = j := by rw [eB, zst_eq]; omega
  have b109 : B 109 = M 109 := by rw [eB, zst_ne (by decide), g3]
  have b11 : ∀ q, q ≠ o → B 110 q = M 110 q := fun q hq => by rw [eB, zst_ns hq, g4]
  have bk : zMk B W c := zMk_c _ _ g6 (fun q t x y u v => by rw [eB, zst_ne (by omega)])
  clear eB
  rw [b45]
  simp only [Int.toNat_natCast, b110]
  refine zO_gd (by omega) ?_
  have st2 : zO (zbr j 1 (j ≤ 1) (some B) (zb1 (g_X11_step (zKn i) 3 0 0 0 B) (fun M9 => some M9))) (fun C => zFm W B C ∧ zMS b n (W + (c ++ (if j = 2 then [((3 : Int), (0 : Int), (0 : Int), (0 : Int))] else [])).length) x C ∧ C 109 = B 109 ∧ C 110 = B 110 ∧ C 76 45 = B 76 45 ∧ zMk C W (c ++ (if j = 2 then [((3 : Int), (0 : Int), (0 : Int), (0 : Int))] else []))) := by
    rcases hj with rfl | rfl
    · refine zO_brp (by omega) (by omega) (by omega) (zO_some ?_)
      rw [if_neg (by omega), List.append_nil]
      exact ⟨zFm.rf, s2, rfl, rfl, rfl, bk⟩
    · rw [if_pos rfl, List.length_append, List.length_singleton] at hW
      refine zO_brn (by omega) (by omega) (by omega) (zO_b1q (m_step hn s2 (by omega)) ?_)
      rintro C ⟨h1, h2, h3, h4, h5, h6, h7, h8, h9⟩
      rw [if_pos rfl, List.length_append, List.length_singleton]
      refine zO_some ⟨zFm.rf.tr h1 (by omega), h2, h3, h4, h5, ?_⟩
      rw [zMk_app]
      exact ⟨zMk_c _ _ bk (fun q t x y u v => h1.2.2 q t x y (by omega)), ⟨h6, h7, h8, h9⟩, trivial⟩
  refine zO_b1q st2 ?_
  generalize c ++ (if j = 2 then [((3 : Int), (0 : Int), (0 : Int), (0 : Int))] else []) = d at *
  rintro C ⟨h1, h2, h3, h4, h5, h6⟩
  rw [h5, b45]
  simp only [Int.toNat_natCast]
  refine zO_gd (by omega) (zO_lte (fun D eD => ?_))
  refine H D (g1.tr (f2.tr (h1.tr (W' := W) ?_ (Nat.le_refl _)) (Nat.le_refl _)) (Nat.le_refl _)) ?_ ⟨?_, fun q hq => ?_, fun q hq => ?_⟩ ?_
  · rw [eD]; exact zFm.of (zFr.st1 (by decide)) (fun s _ _ _ _ => by rw [zst_ne (by decide)])
  · exact h2.fr (fun q hq => by rw [eD, zst_ne (by omega)]) (fun s hs => by rw [eD, zst_ne (by decide)]) (by rw [eD, zst_ne (by decide)]; exact h2.2.2.2.2.2.2.1) h2.2.2.2.2.2.2.2.1 h2.2.2.2.2.2.2.2.2.1
  · rw [eD, zst_ne (by decide), h5]; exact b45
  · rw [eD, zst_ne (by decide), h3, b109]; exact hK.2.1 q hq
  · rw [eD]
    by_cases e : q = o
    · subst e
      rw [zst_eq, zup_eq]
    · rw [zst_ns e, zup_ne e, h4, b11 q e, hK.2.2 q hq, zup_ne e]
  · exact zMk_c _ _ h6 (fun q t x y u v => by rw [eD, zst_ne (by omega)])

/-! law: the reference's conditions, in pieces (printed by mk9e.py) -/
def kEnd (k : zK) (M11 : zM) : Option ((Int × zM) ⊕ ((zM) ⊕ (zM × Int))) :=
  zb1 (g_X11_is k 423 M11) (fun v12 => zbr v12 0 (v12 = 0) (zb1 (zbr (M11 76 45) 0 (M11 76 45 ≤ 0) (some (0)) (some (1))) (fun x14 => zbr x14 0 (¬ x14 = 0) (zbr (M11 76 39) 41 (M11 76 39 = 41) (zlt (zst M11 76 45 ((M11 76 45) - 1)) (fun M15 => zb1 (g_X11_next k M15) (fun M16 => some (.inl (x14, M16))))) (zb1 (g_X11_errs k M11) (fun M17 => some (.inr (.inr (M17, 0)))))) (some (.inr (.inr (M11, 0)))))) (zgd (0 ≤ M11 76 45 ∧ M11 76 45 < 12) (zlt (zst M11 110 (M11 76 45).toNat (2)) (fun M18 => zb1 (g_X11_next k M18) (fun M19 => some (.inr (.inr (M19, 1))))))))
def kRest (k : zK) (M3 : zM) : Option ((Int × zM) ⊕ ((zM) ⊕ (zM × Int))) :=
  zb1 (g_X11_is k 1111 M3) (fun v4 => zbr v4 0 (v4 = 0) (zgd (0 ≤ M3 76 45 ∧ M3 76 45 < 12) (zgd (0 ≤ M3 110 (M3 76 45).toNat ∧ M3 110 (M3 76 45).toNat ≤ 2147483647) (zb1 (zbr ((M3 110 (M3 76 45).toNat) % 2) 1 (¬ (M3 110 (M3 76 45).toNat) % 2 = 1) (some (M3)) (zb1 (g_X11_step k 2 0 0 0 M3) (fun M6 => some (M6)))) (fun M7 => zgd (0 ≤ M7 76 45 ∧ M7 76 45 < 12) (zgd (0 ≤ M7 110 (M7 76 45).toNat ∧ M7 110 (M7 76 45).toNat ≤ 2147483647) (zgd (0 ≤ M7 76 45 ∧ M7 76 45 < 12) (zlt (zst M7 110 (M7 76 45).toNat (((M7 110 (M7 76 45).toNat) / 2) * 2)) (fun M8 => zgd (0 ≤ M8 76 45 ∧ M8 76 45 < 12) (zb1 (zbr (M8 110 (M8 76 45).toNat) 1 (M8 110 (M8 76 45).toNat ≤ 1) (some (M8)) (zb1 (g_X11_step k 3 0 0 0 M8) (fun M9 => some (M9)))) (fun M10 => zgd (0 ≤ M10 76 45 ∧ M10 76 45 < 12) (zlt (zst M10 110 (M10 76 45).toNat (0)) (fun M11 => kEnd k M11)))))))))))) (some (.inr (.inl M3))))
def k20 (k : zK) (M20 : zM) : Option (zM × Int) :=
  zgd (0 ≤ M20 76 45 ∧ M20 76 45 < 12) (zgd (0 ≤ M20 110 (M20 76 45).toNat ∧ M20 110 (M20 76 45).toNat ≤ 2147483647) (zb1 (zbr ((M20 110 (M20 76 45).toNat) % 2) 1 (¬ (M20 110 (M20 76 45).toNat) % 2 = 1) (some (M20)) (zb1 (g_X11_step k 2 0 0 0 M20) (fun M21 => some (M21)))) (fun M22 => zgd (0 ≤ M22 76 45 ∧ M22 76 45 < 12) (zgd (0 ≤ M22 110 (M22 76 45).toNat ∧ M22 110 (M22 76 45).toNat ≤ 2147483647) (zgd (0 ≤ M22 76 45 ∧ M22 76 45 < 12) (zlt (zst M22 110 (M22 76 45).toNat ((((M22 110 (M22 76 45).toNat) / 2) * 2) + 1)) (fun M23 => zb1 (g_X11_next k M23) (fun M24 => some (M24, 1)))))))))
theorem k_closes_2 {k : zK} {y1 : Int} {M0 : zM} : gb_X11_closes_2 k y1 M0 = zbr y1 0 (y1 = 0) (some (.inr (.inr (M0, 0)))) (zbr (M0 76 42) 0 (¬ M0 76 42 = 0) (some (.inr (.inr (M0, 0)))) (zb1 (zwh (fun t => gb_X11_closes_13 k t) zfu M0) (kRest k))) := rfl
theorem k_closes {k : zK} {M0 : zM} : g_X11_closes k M0 = zsp1 (zwh (fun t : Int × zM => gb_X11_closes_2 k t.1 t.2) zfu (1, M0)) (fun r => some (r)) (k20 k) := rfl
/-! what the reference's reading keeps -/
def rSg (s : zStp) : Int := if s.1 = 0 then (if s.2.2.1 = 0 then 60 else if s.2.2.1 = 1 then 62 else 61) else 0
def zMk (M : zM) : Nat → List zStp → Prop
  | _, [] => True
  | j, s :: c => (M 104 j = s.1 ∧ M 105 j = s.2.1 ∧ M 106 j = rSg s ∧ M 107 j = s.2.2.2) ∧ zMk M (j + 1) c
theorem zMk_app {M : zM} : ∀ (c c' : List zStp) (j : Nat), zMk M j (c ++ c') ↔ (zMk M j c ∧ zMk M (j + c.length) c') := by
  intro c
  induction c with
  | nil => intro c' j; simp [zMk]
  | cons s c ih =>
    intro c' j
    rw [List.cons_append]
    show (_ ∧ zMk M (j + 1) (c ++ c')) ↔ ((_ ∧ zMk M (j + 1) c) ∧ _)
    rw [ih c' (j + 1), List.length_cons, show j + 1 + c.length = j + (c.length + 1) by omega]
    exact ⟨fun h => ⟨⟨h.1, h.2.1⟩, h.2.2⟩, fun h => ⟨h.1.1, h.1.2, h.2⟩⟩
theorem zMk_c {M M' : zM} : ∀ (c : List zStp) (j : Nat), zMk M j c → (∀ q t, 104 ≤ q → q ≤ 107 → j ≤ t → t < j + c.length → M' q t = M q t) → zMk M' j c := by
  intro c
  induction c with
  | nil => intro j _ _; exact trivial
  | cons s c ih =>
    intro j h e
    rw [List.length_cons] at e
    refine ⟨?_, ih (j + 1) h.2 (fun q t x y a d => e q t x y (by omega) (by omega))⟩
    rw [e 104 j (by omega) (by omega) (by omega) (by omega), e 105 j (by omega) (by omega) (by omega) (by omega), e 106 j (by omega) (by omega) (by omega) (by omega), e 107 j (by omega) (by omega) (by omega) (by omega)]
    exact h.1
def zFm (W : Nat) (M M' : zM) : Prop := zFr [76, 104, 105, 106, 107, 109, 110] M M' ∧ (∀ s, s ≠ 28 → s ≠ 35 → (s < 37 ∨ 42 < s) → s ≠ 45 → M' 76 s = M 76 s) ∧ ∀ q j, 104 ≤ q → q ≤ 107 → j < W → M' q j = M q j
theorem zFm.rf {W : Nat} {M : zM} : zFm W M M := ⟨zFr_refl, fun _ _ _ _ _ => rfl, fun _ _ _ _ _ => rfl⟩
theorem zFm.tr {W W' : Nat} {M M' M'' : zM} (h : zFm W M M') (h' : zFm W' M' M'') (hw : W ≤ W') : zFm W M M'' := ⟨h.1.tr h'.1, fun s a b c d => (h'.2.1 s a b c d).trans (h.2.1 s a b c d), fun q j a b c => (h'.2.2 q j a b (by omega)).trans (h.2.2 q j a b c)⟩
/-- only what stands in slots of the object, or on the two piles, has changed -/
theorem zFm.of {W : Nat} {M M' : zM} (h : zFr [76, 109, 110] M M') (h2 : ∀ s, s ≠ 28 → s ≠ 35 → (s < 37 ∨ 42 < s) → s ≠ 45 → M' 76 s = M 76 s) : zFm W M M' := ⟨h.mono (by simp), h2, fun q j a b _ => by rw [h q (by simp; omega)]⟩
/-- token x in hand, W steps written, nothing wrong -/
def zMS (b : Nat → Int) (n W x : Nat) (M : zM) : Prop := M 3 = b ∧ zB8 M ∧ M 76 36 = (n : Int) ∧ zTm b n x M ∧ M 76 42 = 0 ∧ M 76 35 = -1 ∧ M 76 28 = (W : Int) ∧ 1000 ≤ W ∧ W ≤ 1000 + x ∧ x ≤ n
def zME (b : Nat → Int) (n e : Nat) (M : zM) : Prop := M 76 42 = 1 ∧ M 76 35 = (yA b n e : Int) ∧ e ≤ n ∧ 0 ≤ M 76 39 ∧ M 76 39 ≤ 62
theorem zTm.fr {b : Nat → Int} {n x : Nat} {M M' : zM} (h : zTm b n x M) (e : ∀ s, 37 ≤ s → s ≤ 41 → M' 76 s = M 76 s) : zTm b n x M' := by
  unfold zTm at *
  rw [e 38 (by omega) (by omega), e 37 (by omega) (by omega), e 39 (by omega) (by omega), e 40 (by omega) (by omega), e 41 (by omega) (by omega)]
  exact h
theorem zMS.fr {b : Nat → Int} {n W W' x : Nat} {M M' : zM} (h : zMS b n W x M) (f : ∀ q, q = 3 ∨ q = 108 → M' q = M q) (e : ∀ s, s = 35 ∨ s = 36 ∨ (37 ≤ s ∧ s ≤ 42) → M' 76 s = M 76 s) (e28 : M' 76 28 = (W' : Int)) (hw : 1000 ≤ W') (hw' : W' ≤ 1000 + x) : zMS b n W' x M' := by
  obtain ⟨h1, h2, h3, h4, h5, h6, h7, h8, h9, h0⟩ := h
  refine ⟨by rw [f 3 (by omega)]; exact h1, fun j hj => by rw [f 3 (by omega), f 108 (by omega)]; exact h2 j hj, by rw [e 36 (by omega)]; exact h3, h4.fr (fun s a c => e s (by omega)), by rw [e 42 (by omega)]; exact h5, by rw [e 35 (by omega)]; exact h6, e28, hw, hw', h0⟩
theorem m_next {b : Nat → Int} {i n W x : Nat} {M : zM} (hn : n ≤ 700) (h : zMS b n W x M) : zO (g_X11_next (zKn i) M) (fun M' => zFm W M M' ∧ zFr [76] M M' ∧ (∀ s, s < 37 ∨ 41 < s → M' 76 s = M 76 s) ∧ zMS b n W (yE b n x) M') := by
  have h' := h
  obtain ⟨h1, h2, h3, h4, h5, h6, h7, h8, h9, h0⟩ := h
  have hE := yE_r (b := b) h0
  have hA := yA_r (b := b) h0
  refine zO_mono (g11_next (x := yE b n x) hn h2 h3 h4.2.1 hE.2.1) ?_
  rintro M' ⟨f1, f2, f3⟩
  rw [h1] at f3
  refine ⟨zFm.of (f1.mono (by simp)) (fun s a c d e => f2 s (by omega)), f1, f2, by rw [f1 3 (by decide)]; exact h1, fun j hj => by rw [f1 3 (by decide), f1 108 (by decide)]; exact h2 j hj, by rw [f2 36 (by omega)]; exact h3, f3, by rw [f2 42 (by omega)]; exact h5, by rw [f2 35 (by omega)]; exact h6, by rw [f2 28 (by omega)]; exact h7, h8, by omega, hE.2.1⟩
theorem m_is {b : Nat → Int} {i n W x : Nat} {w : Int} {M : zM} (h : zMS b n W x M) (hw : 0 ≤ w ∧ w ≤ 9223372036854775807) : g_X11_is (zKn i) w M = some (if wI b n x w then 1 else 0) := by
  obtain ⟨h1, h2, h3, h4, h5, h6, h7, h8, h9, h0⟩ := h
  have ht := yT_1 h4.2.2.1
  have hW := yW_r (b := b) h0
  apply zO_get
  unfold g_X11_is
  rw [h5, h4.2.2.2.2]
  refine zO_brn (by omega) (by omega) (by omega) (zO_br ⟨by omega, by omega⟩ ⟨by omega, by omega⟩ (fun c => zO_some ?_) (fun c => zO_bl ⟨by omega, by omega⟩ ⟨by omega, by omega⟩ (fun d => zO_some ?_) (fun d => zO_some ?_)))
  · rw [if_neg (fun e => c (ht.2.1.2 e.1))]
  · rw [if_neg (fun e => d e.2)]
  · rw [if_pos ⟨ht.2.1.1 (by omega), by omega⟩]
theorem m_errs {b : Nat → Int} {i n W x : Nat} {M : zM} (h : zMS b n W x M) : zO (g_X11_errs (zKn i) M) (fun M' => zFm W M M' ∧ zFr [76] M M' ∧ zME b n x M' ∧ ∀ s, s ≠ 42 → s ≠ 35 → M' 76 s = M 76 s) := by
  obtain ⟨h1, h2, h3, h4, h5, h6, h7, h8, h9, h0⟩ := h
  unfold g_X11_errs
  rw [h5]
  refine zO_brp (by omega) (by omega) rfl (zO_gd (by omega) (zO_lt (zO_lt (zO_some ⟨zFm.of ((zFr.st1 (by decide)).st (by decide)) (fun s a c d e => by rw [zst_ns (by omega), zst_ns (by omega)]), (zFr.st1 (by decide)).st (by decide), ⟨?_, ?_, h0, by rw [zst_ns (by decide), zst_ns (by decide)]; exact (yT_1 h4.2.2.1).2.2.2.2⟩, fun s a c => by rw [zst_ns c, zst_ns a]⟩))))
  · rw [zst_ns (by decide), zst_eq]
  · rw [zst_eq, zst_ns (by decide)]; exact h4.1
theorem m_step {b : Nat → Int} {i n W x : Nat} {p1 p2 p3 p4 : Int} {M : zM} (hn : n ≤ 700) (h : zMS b n W x M) (hw : W + 1 ≤ 1000 + x) : zO (g_X11_step (zKn i) p1 p2 p3 p4 M) (fun M' => zFm W M M' ∧ zMS b n (W + 1) x M' ∧ M' 109 = M 109 ∧ M' 110 = M 110 ∧ M' 76 45 = M 76 45 ∧ M' 104 W = p1 ∧ M' 105 W = p2 ∧ M' 106 W = p3 ∧ M' 107 W = p4) := by
  have h' := h
  obtain ⟨h1, h2, h3, h4, h5, h6, h7, h8, h9, h0⟩ := h
  unfold g_X11_step
  have n1 : ∀ (A : zM) q j v, q ≠ 76 → zst A q j v 76 28 = A 76 28 := fun A q j v e => by rw [zst_ne (fun g => e g.symm)]
  simp only [n1 _ 104 _ _ (by decide), n1 _ 105 _ _ (by decide), n1 _ 106 _ _ (by decide), n1 _ 107 _ _ (by decide), h7, zlt, Int.toNat_natCast]
  refine zO_gd (by omega) (zO_gd (by omega) (zO_gd (by omega) (zO_gd (by omega) (zO_some ?_))))
  have e2 : ∀ q, q ≠ 76 → (q < 104 ∨ 107 < q) → zst (zst (zst (zst (zst M 104 W p1) 105 W p2) 106 W p3) 107 W p4) 76 28 ((W : Int) + 1) q = M q := fun q a c => by rw [zst_ne a, zst_ne (by omega), zst_ne (by omega), zst_ne (by omega), zst_ne (by omega)]
  have e6 : ∀ s, s ≠ 28 → zst (zst (zst (zst (zst M 104 W p1) 105 W p2) 106 W p3) 107 W p4) 76 28 ((W : Int) + 1) 76 s = M 76 s := fun s a => by rw [zst_ns a, zst_ne (by decide), zst_ne (by decide), zst_ne (by decide), zst_ne (by decide)]
  refine ⟨⟨((((zFr.st1 (by decide)).st (by decide)).st (by decide)).st (by decide)).st (by decide), fun s a c d e => e6 s a, fun q j a c d => ?_⟩, h'.fr (fun q hq => e2 q (by omega) (by omega)) (fun s hs => e6 s (by omega)) (by rw [zst_eq]; omega) (by omega) hw, e2 109 (by decide) (by decide), e2 110 (by decide) (by decide), e6 45 (by decide), ?_, ?_, ?_, ?_⟩
  · rw [zst_ne (by omega), zst_r, if_neg (by omega), zst_r, if_neg (by omega), zst_r, if_neg (by omega), zst_r, if_neg (by omega)]
  · rw [zst_ne (by decide), zst_ne (by decide), zst_ne (by decide), zst_ne (by decide), zst_eq]
  · rw [zst_ne (by decide), zst_ne (by decide), zst_ne (by decide), zst_eq]
  · rw [zst_ne (by decide), zst_ne (by decide), zst_eq]
  · rw [zst_ne (by decide), zst_eq]
theorem m_num {b : Nat → Int} {i n W x : Nat} {lo hi : Int} {M : zM} (hn : n ≤ 700) (h : zMS b n W x M) (hl : zr lo) (hh : -2147483648 ≤ hi ∧ hi < 10000) : zO (g_X11_numeral (zKn i) lo hi M) (fun r => zFm W M r.1 ∧ zFr [76] M r.1 ∧ ((wN b n x lo hi ∧ r.2 = yV b n x ∧ zMS b n W (yE b n x) r.1 ∧ ∀ s, s < 37 ∨ 41 < s → r.1 76 s = M 76 s) ∨ (¬ wN b n x lo hi ∧ r.2 = 0 ∧ zME b n x r.1 ∧ r.1 76 28 = (W : Int)))) := by
  have h' := h
  obtain ⟨h1, h2, h3, h4, h5, h6, h7, h8, h9, h0⟩ := h
  have ht := yT_1 h4.2.2.1
  obtain ⟨n1, n2, n3⟩ := yT_n (lo := lo) h0 h4.2.2.1 hh.2
  unfold g_X11_numeral
  refine zO_lt ?_
  rw [h5, h4.2.2.2.1]
  refine zO_brp (by omega) (by omega) rfl (zO_sp1 ?_)
  have bad : ¬ wN b n x lo hi → zO (zb1 (g_X11_errs (zKn i) M) (fun M4 => some (M4, (0 : Int)))) (fun r => zFm W M r.1 ∧ zFr [76] M r.1 ∧ ((wN b n x lo hi ∧ r.2 = yV b n x ∧ zMS b n W (yE b n x) r.1 ∧ ∀ s, s < 37 ∨ 41 < s → r.1 76 s = M 76 s) ∨ (¬ wN b n x lo hi ∧ r.2 = 0 ∧ zME b n x r.1 ∧ r.1 76 28 = (W : Int)))) := by
    intro hw
    refine zO_b1q (m_errs h') ?_
    rintro M4 ⟨g1, g2, g3, g4⟩
    exact zO_some ⟨g1, g2, Or.inr ⟨hw, rfl, g3, by dsimp only; rw [g4 28 (by decide) (by decide)]; exact h7⟩⟩
  refine zO_br ⟨by omega, by omega⟩ ⟨by omega, by omega⟩ (fun c => zO_inl (bad (fun e => c (n1.2 e).1))) (fun c => zO_br ⟨by omega, by omega⟩ hl (fun d => zO_inl (bad (fun e => by have := n1.2 e; omega))) (fun d => zO_br ⟨by omega, by omega⟩ ⟨by omega, by omega⟩ (fun e => ?_) (fun d => zO_inl (bad (fun e => by have := n1.2 e; omega)))))
  have hw := n1.1 ⟨by omega, by omega, e⟩
  refine zO_b1q (m_next hn h') ?_
  rintro M2 ⟨g1, g2, g3, g4⟩
  exact zO_inr (show zO _ _ from zO_some ⟨g1, g2, Or.inl ⟨hw, n2 hw, g4, g3⟩⟩)
theorem m_word {b : Nat → Int} {i n W x : Nat} {M : zM} (h : zMS b n W x M) : g_X11_wordHere (zKn i) M = some (yAsk b n x) := by
  obtain ⟨h1, h2, h3, h4, h5, h6, h7, h8, h9, h0⟩ := h
  have ht := yT_1 h4.2.2.1
  have hW := yW_r (b := b) h0
  apply zO_get
  unfold g_X11_wordHere yAsk wAsk
  rw [h5, h4.2.2.2.2]
  refine zO_brn (by omega) (by omega) (by omega) (zO_br ⟨by omega, by omega⟩ ⟨by omega, by omega⟩ (fun c => ?_) (fun c => zO_some ?_))
  · rw [if_pos (ht.2.1.1 c)]
    generalize yW b n x = v at *
    have z : zrl v := ⟨by omega, by omega⟩
    refine zO_bl z ⟨by omega, by omega⟩ (fun c1 => ?_) (fun c1 => zO_some (by rw [if_pos (by omega)]))
    rw [if_neg c1]
    refine zO_bl z ⟨by omega, by omega⟩ (fun c2 => ?_) (fun c2 => zO_some (by rw [if_pos (by omega)]))
    rw [if_neg c2]
    refine zO_bl z ⟨by omega, by omega⟩ (fun c3 => ?_) (fun c3 => zO_some (by rw [if_pos (by omega)]))
    rw [if_neg c3]
    refine zO_bl z ⟨by omega, by omega⟩ (fun c4 => ?_) (fun c4 => zO_some (by rw [if_pos (by omega)]))
    rw [if_neg c4]
    refine zO_bl z ⟨by omega, by omega⟩ (fun c5 => ?_) (fun c5 => zO_some (by rw [if_pos (by omega)]))
    rw [if_neg c5]
    refine zO_bl z ⟨by omega, by omega⟩ (fun c6 => ?_) (fun c6 => zO_some (by rw [if_pos (by omega)]))
    rw [if_neg c6]
    refine zO_bl z ⟨by omega, by omega⟩ (fun c7 => zO_some (by rw [if_neg c7])) (fun c7 => zO_some (by rw [if_pos (by omega)]))
  · rw [if_neg (fun e => c (ht.2.1.2 e))]
theorem m_rule {b : Nat → Int} {i n W x : Nat} {M : zM} (h : zMS b n W x M) : g_X11_ruleHere (zKn i) M = some (yRule b n x) := by
  obtain ⟨h1, h2, h3, h4, h5, h6, h7, h8, h9, h0⟩ := h
  have ht := yT_1 h4.2.2.1
  have hW := yW_r (b := b) h0
  apply zO_get
  unfold g_X11_ruleHere yRule wRule
  rw [h5, h4.2.2.2.2]
  refine zO_brn (by omega) (by omega) (by omega) (zO_br ⟨by omega, by omega⟩ ⟨by omega, by omega⟩ (fun c => ?_) (fun c => zO_some ?_))
  · rw [if_pos (ht.2.1.1 c)]
    generalize yW b n x = v at *
    have z : zrl v := ⟨by omega, by omega⟩
    refine zO_bl z ⟨by omega, by omega⟩ (fun c1 => ?_) (fun c1 => zO_some (by rw [if_pos (by omega)]))
    rw [if_neg c1]
    refine zO_bl z ⟨by omega, by omega⟩ (fun c2 => ?_) (fun c2 => zO_some (by rw [if_pos (by omega)]))
    rw [if_neg c2]
    refine zO_bl z ⟨by omega, by omega⟩ (fun c3 => ?_) (fun c3 => zO_some (by rw [if_pos (by omega)]))
    rw [if_neg c3]
    refine zO_bl z ⟨by omega, by omega⟩ (fun c4 => ?_) (fun c4 => zO_some (by rw [if_pos (by omega)]))
    rw [if_neg c4]
    refine zO_bl z ⟨by omega, by omega⟩ (fun c5 => ?_) (fun c5 => zO_some (by rw [if_pos (by omega)]))
    rw [if_neg c5]
    refine zO_bl z ⟨by omega, by omega⟩ (fun c6 => ?_) (fun c6 => zO_some (by rw [if_pos (by omega)]))
    rw [if_neg c6]
    refine zO_bl z ⟨by omega, by omega⟩ (fun c7 => zO_some (by rw [if_neg c7])) (fun c7 => zO_some (by rw [if_pos (by omega)]))
  · rw [if_neg (fun e => c (ht.2.1.2 e))]
theorem m_how {b : Nat → Int} {i n W x : Nat} {M : zM} (hn : n ≤ 700) (h : zMS b n W x M) : zO (g_X11_howHere (zKn i) M) (fun r => r.2 = yHow b n x ∧ zFm W M r.1 ∧ zFr [76] M r.1 ∧ ((yHow b n x ≠ -1 ∧ zMS b n W (yE b n x) r.1 ∧ ∀ s, s < 37 ∨ 41 < s → r.1 76 s = M 76 s) ∨ (yHow b n x = -1 ∧ zME b n x r.1))) := by
  unfold g_X11_howHere
  have hr := yHow_r (b := b) (n := n) (x := x)
  refine zO_b1e (m_is h (by omega)) ?_
  have hv : zO (zbr (if wI b n x 91256359 then (1 : Int) else 0) 0 ((if wI b n x 91256359 then (1 : Int) else 0) = 0) (zb1 (g_X11_is (zKn i) 1902829 M) (fun v3 => zbr v3 0 (v3 = 0) (zb1 (g_X11_is (zKn i) 2970796153 M) (fun v5 => zbr v5 0 (v5 = 0) (some (-1)) (some (2)))) (some (1)))) (some (0))) (fun v => v = yHow b n x) := by
    unfold yHow wHow
    by_cases k : yK b n x = 1
    · rw [if_pos k]
      by_cases c1 : wI b n x 91256359
      · rw [if_pos c1, if_pos c1.2]
        exact zO_brn (by omega) (by omega) (by omega) (zO_some rfl)
      · rw [if_neg c1, if_neg (fun e => c1 ⟨k, e⟩)]
        refine zO_brp (by omega) (by omega) (by omega) (zO_b1e (m_is h (by omega)) ?_)
        by_cases c2 : wI b n x 1902829
        · rw [if_pos c2, if_pos c2.2]
          exact zO_brn (by omega) (by omega) (by omega) (zO_some rfl)
        · rw [if_neg c2, if_neg (fun e => c2 ⟨k, e⟩)]
          refine zO_brp (by omega) (by omega) (by omega) (zO_b1e (m_is h (by omega)) ?_)
          by_cases c3 : wI b n x 2970796153
          · rw [if_pos c3, if_pos c3.2]
            exact zO_brn (by omega) (by omega) (by omega) (zO_some rfl)
          · rw [if_neg c3, if_neg (fun e => c3 ⟨k, e⟩)]
            exact zO_brp (by omega) (by omega) (by omega) (zO_some rfl)
    · rw [if_neg k, if_neg (fun e => k e.1)]
      refine zO_brp (by omega) (by omega) (by omega) (zO_b1e (m_is h (by omega)) ?_)
      rw [if_neg (fun e => k e.1)]
      refine zO_brp (by omega) (by omega) (by omega) (zO_b1e (m_is h (by omega)) ?_)
      rw [if_neg (fun e => k e.1)]
      exact zO_brp (by omega) (by omega) (by omega) (zO_some rfl)
  refine zO_b1q hv ?_
  rintro v rfl
  refine zO_br ⟨by omega, by omega⟩ ⟨by omega, by omega⟩ (fun c => ?_) (fun c => ?_)
  · refine zO_b1q (m_next hn h) ?_
    rintro A ⟨g1, g2, g3, g4⟩
    exact zO_some ⟨rfl, g1, g2, Or.inl ⟨by omega, g4, g3⟩⟩
  · refine zO_b1q (m_errs h) ?_
    rintro A ⟨g1, g2, g3, _⟩
    exact zO_some ⟨rfl, g1, g2, Or.inr ⟨by omega, g3⟩⟩

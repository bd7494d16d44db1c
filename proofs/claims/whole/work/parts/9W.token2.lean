/-! law: the reference's token in hand -/
theorem zo_byte {v : Int} (h : -128 ≤ v ∧ v ≤ 127) : zo_and v 255 = v % 256 := by
  have key : ∀ t : Fin 256, zo_and ((t.val : Int) - 128) 255 = ((t.val : Int) - 128) % 256 := by decide +kernel
  have := key ⟨(v + 128).toNat, by omega⟩
  rw [show (((⟨(v + 128).toNat, by omega⟩ : Fin 256).val : Int) - 128) = v by show (((v + 128).toNat : Int) - 128) = v; omega] at this
  exact this
abbrev zB8 (M : zM) : Prop := ∀ j, j < 700 → M 3 j = M 108 j % 256 ∧ -128 ≤ M 108 j ∧ M 108 j ≤ 127
theorem zB8.by {M : zM} (h : zB8 M) : zBy (M 3) := fun j hj => by have := h j hj; omega
theorem g11_here {i n y : Nat} {M : zM} (hn : n ≤ 700) (hy : y ≤ 700) (hb : zB8 M) (h36 : M 76 36 = (n : Int)) (h37 : M 76 37 = (y : Int)) : g_X11_here (zKn i) M = some (if n ≤ y then -1 else M 3 y) := by
  apply zO_get
  unfold g_X11_here
  rw [h36, h37]
  simp only [Int.toNat_natCast]
  by_cases c : n ≤ y
  · rw [if_pos c]
    exact zO_brp ⟨by omega, by omega⟩ ⟨by omega, by omega⟩ (by omega) (zO_some rfl)
  · rw [if_neg c]
    obtain ⟨h1, h2⟩ := hb y (by omega)
    refine zO_brn ⟨by omega, by omega⟩ ⟨by omega, by omega⟩ (by omega) (zO_gd (by omega) (zO_some ?_))
    rw [zo_byte h2, h1]
def zTm (b : Nat → Int) (n x : Nat) (M : zM) : Prop := M 76 38 = (yA b n x : Int) ∧ M 76 37 = (yE b n x : Int) ∧ yT b n x (M 76 39) ∧ M 76 40 = yU b n x ∧ M 76 41 = yW b n x
theorem g11_next {i n x : Nat} {M : zM} (hn : n ≤ 700) (hb : zB8 M) (h36 : M 76 36 = (n : Int)) (h37 : M 76 37 = (x : Int)) (hx : x ≤ n) : zO (g_X11_next (zKn i) M) (fun M' => zFr [76] M M' ∧ (∀ s, s < 37 ∨ 41 < s → M' 76 s = M 76 s) ∧ zTm (M 3) n x M') := by
  have hbb := hb.by
  have here : ∀ (A : zM) (y : Nat), zFr [76] M A → A 76 36 = (n : Int) → A 76 37 = (y : Int) → y ≤ n → g_X11_here (zKn i) A = some (if n ≤ y then -1 else M 3 y) := by
    intro A y f e6 e7 hy
    have h := g11_here (i := i) (M := A) hn (by omega) (fun j hj => by rw [f 3 (by decide), f 108 (by decide)]; exact hb j hj) e6 e7
    rw [f 3 (by decide)] at h
    exact h
  unfold g_X11_next
  have hskip : zw1 (gb_X11_next_0 (zKn i)) zfu M = some (zst M 76 37 (yA (M 3) n x : Int)) := by
    have h := zO_run (p := zBl) (b := M 3) (F := fun t => gb_X11_next_0 (zKn i) t) (fun y => zst M 76 37 (y : Int)) hx hn ?_ ?_
    · rw [zst_id h37] at h
      exact h
    · intro y h1 h3 _ hp
      rw [zBl_i] at hp
      have hby := hbb y (by omega)
      have hh := here (zst M 76 37 (y : Int)) y (zFr.st1 (by decide)) (by rw [zst_ns (by decide)]; exact h36) zst_eq (by omega)
      rw [if_neg (by omega)] at hh
      rw [gb_X11_next_0]
      refine zO_b1e hh (zO_sp0 ?_)
      refine zO_br ⟨by omega, by omega⟩ ⟨by omega, by omega⟩ (fun hc => zO_inl (zO_lt (zO_some ?_))) (fun hc => zO_b1e hh (zO_brn ⟨by omega, by omega⟩ ⟨by omega, by omega⟩ (by omega) (zO_inl (zO_lt (zO_some ?_)))))
      · rw [zst_zst, zst_eq]; rfl
      · rw [zst_zst, zst_eq]; rfl
    · intro y h1 h3 _ hp
      have hh := here (zst M 76 37 (y : Int)) y (zFr.st1 (by decide)) (by rw [zst_ns (by decide)]; exact h36) zst_eq (by omega)
      have hv : ¬ ((if n ≤ y then -1 else M 3 y) = 32 ∨ (if n ≤ y then -1 else M 3 y) = 10) ∧ zr (if n ≤ y then -1 else M 3 y) := by
        by_cases c : n ≤ y
        · rw [if_pos c]; omega
        · rw [if_neg c]
          have hp' := hp (by omega)
          rw [zBl_i] at hp'
          have hby := hbb y (by omega)
          exact ⟨hp', by omega, by omega⟩
      rw [gb_X11_next_0]
      generalize (if n ≤ y then (-1 : Int) else M 3 y) = v at *
      exact zO_b1e hh (zO_sp0 (zO_brn hv.2 ⟨by omega, by omega⟩ (by omega) (zO_b1e hh (zO_brp hv.2 ⟨by omega, by omega⟩ (by omega) (zO_inr (show zO _ _ from zO_some rfl))))))
  refine zO_b1e hskip ?_
  have hA := yA_r (b := M 3) hx
  have hE := yE_r (b := M 3) hx
  refine zO_lte (fun M7 e7 => ?_)
  have f7 : zFr [76] M M7 := by rw [e7]; exact (zFr.st1 (by decide)).st (by decide)
  have o7 : ∀ s, s ≠ 37 → s ≠ 38 → M7 76 s = M 76 s := fun s a c => by rw [e7, zst_ns c, zst_ns a]
  have m38 : M7 76 38 = (yA (M 3) n x : Int) := by rw [e7, zst_eq, zst_eq]
  have m37 : M7 76 37 = (yA (M 3) n x : Int) := by rw [e7, zst_ns (by decide), zst_eq]
  clear e7 hskip
  have h7 := here M7 _ f7 (by rw [o7 36 (by decide) (by decide)]; exact h36) m37 hA.2
  refine zO_b1e h7 (zO_lte (fun M8 e8 => zO_lte (fun M11 e11 => ?_)))
  have f11 : zFr [76] M M11 := by rw [e11, e8]; exact (f7.st (by decide)).st (by decide)
  have o11 : ∀ s, s < 37 ∨ 41 < s → M11 76 s = M 76 s := fun s h => by rw [e11, e8, zst_ns (by omega), zst_ns (by omega)]; exact o7 s (by omega) (by omega)
  have n38 : M11 76 38 = (yA (M 3) n x : Int) := by rw [e11, e8, zst_ns (by decide), zst_ns (by decide)]; exact m38
  have n37 : M11 76 37 = (yA (M 3) n x : Int) := by rw [e11, e8, zst_ns (by decide), zst_ns (by decide)]; exact m37
  have n40 : M11 76 40 = 0 := by rw [e11, zst_eq]
  have n41 : M11 76 41 = -1 := by rw [e11, e8, zst_ns (by decide), zst_eq]
  have n36 : M11 76 36 = (n : Int) := by rw [o11 36 (by omega)]; exact h36
  clear e8 e11 h7
  have end' : ∀ (M' : zM), zFr [76] M11 M' → (∀ s, s ≠ 37 → s ≠ 39 → s ≠ 40 → s ≠ 41 → M' 76 s = M11 76 s) → M' 76 37 = (yE (M 3) n x : Int) → yT (M 3) n x (M' 76 39) → M' 76 40 = yU (M 3) n x → M' 76 41 = yW (M 3) n x → (zFr [76] M M' ∧ (∀ s, s < 37 ∨ 41 < s → M' 76 s = M 76 s) ∧ zTm (M 3) n x M') := fun M' a c d e f g => ⟨f11.tr a, fun s h => by rw [c s (by omega) (by omega) (by omega) (by omega)]; exact o11 s h, by rw [c 38 (by decide) (by decide) (by decide) (by decide)]; exact n38, d, e, f, g⟩
  by_cases c0 : n ≤ yA (M 3) n x
  · have k0 : yK (M 3) n x = 0 := by unfold yK; rw [if_pos c0]
    have e0 : yE (M 3) n x = yA (M 3) n x := by unfold yE; rw [if_pos c0]
    rw [if_pos c0]
    refine zO_brn ⟨by omega, by omega⟩ ⟨by omega, by omega⟩ (by omega) (zO_lt (zO_some (end' _ (zFr.st1 (by decide)) (fun s _ h _ _ => zst_ns h) ?_ ?_ ?_ ?_)))
    · rw [zst_ns (by decide), n37, e0]
    · rw [zst_eq]
      exact ⟨fun _ => rfl, fun h => by omega, fun h => by omega, fun h => by omega⟩
    · rw [zst_ns (by decide), n40]; unfold yU; rw [k0, if_neg (by decide)]
    · rw [zst_ns (by decide), n41]; unfold yW; rw [k0, if_neg (by decide)]
  · rw [if_neg c0]
    have hby := hbb (yA (M 3) n x) (by omega)
    refine zO_brp ⟨by omega, by omega⟩ ⟨by omega, by omega⟩ (by omega) ?_
    by_cases c1 : zLe (M 3 (yA (M 3) n x)) = true
    · have k1 : yK (M 3) n x = 1 := by unfold yK; rw [if_neg c0, if_pos c1]
      have e1 : yE (M 3) n x = zRn zLe (M 3) n (yA (M 3) n x) := by unfold yE; rw [if_neg c0, if_pos c1]
      have c1' := zLe_i.1 c1
      refine zO_b1e (t_in ⟨by omega, by omega⟩ ⟨by omega, by omega⟩ ⟨by omega, by omega⟩ c1') (zO_brn (by omega) (by omega) (by omega) (zO_lte (fun M33 e33 => zO_lte (fun M34 e34 => ?_))))
      have f34 : zFr [76] M11 M34 := by rw [e34, e33]; exact (zFr.st1 (by decide)).st (by decide)
      have o34 : ∀ s, s ≠ 39 → s ≠ 41 → M34 76 s = M11 76 s := fun s a c => by rw [e34, e33, zst_ns c, zst_ns a]
      have m39 : M34 76 39 = 1 := by rw [e34, e33, zst_ns (by decide), zst_eq]
      have m41 : M34 76 41 = 0 := by rw [e34, zst_eq]
      clear e33 e34
      have hloop : zw1 (gb_X11_next_89 (zKn i)) zfu M34 = some (zst (zst M34 76 41 (yH (M 3) (yA (M 3) n x) (yE (M 3) n x - yA (M 3) n x))) 76 37 (yE (M 3) n x : Int)) := by
        have h := zO_run (p := zLe) (b := M 3) (F := fun t => gb_X11_next_89 (zKn i) t) (fun y => zst (zst M34 76 41 (yH (M 3) (yA (M 3) n x) (y - yA (M 3) n x))) 76 37 (y : Int)) hA.2 hn ?_ ?_
        · rw [show yA (M 3) n x - yA (M 3) n x = 0 by omega, zst_id (q := 76) (j := 41) (show M34 76 41 = yH (M 3) (yA (M 3) n x) 0 from m41), zst_id (show M34 76 37 = (yA (M 3) n x : Int) by rw [o34 37 (by decide) (by decide)]; exact n37)] at h
          rw [e1]
          exact h
        · intro y h1 h3 _ hp
          rw [zLe_i] at hp
          have hh := here (zst (zst M34 76 41 (yH (M 3) (yA (M 3) n x) (y - yA (M 3) n x))) 76 37 (y : Int)) y ((f11.tr f34).tr ((zFr.st1 (by decide)).st (by decide))) (by rw [zst_ns (by decide), zst_ns (by decide), o34 36 (by decide) (by decide)]; exact n36) zst_eq (by omega)
          rw [if_neg (by omega)] at hh
          rw [gb_X11_next_89]
          refine zO_b1e hh (zO_b1e (t_in ⟨by omega, by omega⟩ ⟨by omega, by omega⟩ ⟨by omega, by omega⟩ hp) (zO_brn (by omega) (by omega) (by omega) ?_))
          rw [zst_eq, zst_ns (show (38 : Nat) ≠ 37 by decide), zst_ns (show (38 : Nat) ≠ 41 by decide), o34 38 (by decide) (by decide), n38, zst_ns (show (41 : Nat) ≠ 37 by decide), zst_eq]
          have hv : yH (M 3) (yA (M 3) n x) (y + 1 - yA (M 3) n x) = if y - yA (M 3) n x < 10 then yH (M 3) (yA (M 3) n x) (y - yA (M 3) n x) * 27 + (M 3 y - 96) else -1 := by
            rw [show y + 1 - yA (M 3) n x = (y - yA (M 3) n x) + 1 by omega]
            show (if _ then _ else _) = _
            rw [show yA (M 3) n x + (y - yA (M 3) n x) = y by omega]
          refine zO_b1 (zO_br ⟨by omega, by omega⟩ ⟨by omega, by omega⟩ (fun hc => zO_some ?_) (fun hc => zO_b1e hh (zO_gd ⟨by omega, by omega⟩ (zO_some ?_))))
          · refine zO_lt (zO_lt (zO_some ?_))
            rw [hv, if_neg (by omega), zst_two (by decide), zst_ns (by decide), zst_eq]
            rfl
          · refine zO_lt (zO_lt (zO_some ?_))
            rw [hv, if_pos (by omega), zst_two (by decide), zst_ns (by decide), zst_eq]
            rfl
        · intro y h1 h3 _ hp
          have hh := here (zst (zst M34 76 41 (yH (M 3) (yA (M 3) n x) (y - yA (M 3) n x))) 76 37 (y : Int)) y ((f11.tr f34).tr ((zFr.st1 (by decide)).st (by decide))) (by rw [zst_ns (by decide), zst_ns (by decide), o34 36 (by decide) (by decide)]; exact n36) zst_eq (by omega)
          have hv : ¬ (97 ≤ (if n ≤ y then -1 else M 3 y) ∧ (if n ≤ y then -1 else M 3 y) ≤ 122) ∧ zr (if n ≤ y then -1 else M 3 y) := by
            by_cases c : n ≤ y
            · rw [if_pos c]; omega
            · rw [if_neg c]
              have hp' := hp (by omega)
              rw [zLe_i] at hp'
              have hby := hbb y (by omega)
              exact ⟨hp', by omega, by omega⟩
          rw [gb_X11_next_89]
          generalize (if n ≤ y then (-1 : Int) else M 3 y) = v at *
          exact zO_b1e hh (zO_b1e (t_in_n hv.2 ⟨by omega, by omega⟩ ⟨by omega, by omega⟩ hv.1) (zO_brp (by omega) (by omega) (by omega) (zO_some rfl)))
      refine zO_b1e hloop (zO_some (end' _ ((f34.st (by decide)).st (by decide)) (fun s h h' _ h'' => by rw [zst_ns h, zst_ns h'']; exact o34 s h' h'') ?_ ?_ ?_ ?_))
      · rw [zst_eq]
      · rw [zst_ns (by decide), zst_ns (by decide), m39]
        exact ⟨fun h => by omega, fun _ => rfl, fun h => by omega, fun h => by omega⟩
      · rw [zst_ns (by decide), zst_ns (by decide), o34 40 (by decide) (by decide), n40]; unfold yU; rw [k1, if_neg (by decide)]
      · rw [zst_ns (by decide), zst_eq]; unfold yW; rw [k1, if_pos rfl]
    · have c1' : ¬ (97 ≤ M 3 (yA (M 3) n x) ∧ M 3 (yA (M 3) n x) ≤ 122) := fun h => c1 (zLe_i.2 h)
      refine zO_b1e (t_in_n ⟨by omega, by omega⟩ ⟨by omega, by omega⟩ ⟨by omega, by omega⟩ c1') (zO_brp (by omega) (by omega) (by omega) ?_)
      by_cases c2 : zDi (M 3 (yA (M 3) n x)) = true
      · have k2 : yK (M 3) n x = 2 := by unfold yK; rw [if_neg c0, if_neg c1, if_pos c2]
        have e2 : yE (M 3) n x = zRn zDi (M 3) n (yA (M 3) n x) := by unfold yE; rw [if_neg c0, if_neg c1, if_pos c2]
        have c2' := zDi_i.1 c2
        refine zO_b1e (t_in ⟨by omega, by omega⟩ ⟨by omega, by omega⟩ ⟨by omega, by omega⟩ c2') (zO_brn (by omega) (by omega) (by omega) ?_)
        have hloop : zw1 (gb_X11_next_168 (zKn i)) zfu M11 = some (zst (zst M11 76 40 (yR (M 3) (yA (M 3) n x) (yE (M 3) n x - yA (M 3) n x))) 76 37 (yE (M 3) n x : Int)) := by
          have h := zO_run (p := zDi) (b := M 3) (F := fun t => gb_X11_next_168 (zKn i) t) (fun y => zst (zst M11 76 40 (yR (M 3) (yA (M 3) n x) (y - yA (M 3) n x))) 76 37 (y : Int)) hA.2 hn ?_ ?_
          · rw [show yA (M 3) n x - yA (M 3) n x = 0 by omega, zst_id (q := 76) (j := 40) (show M11 76 40 = yR (M 3) (yA (M 3) n x) 0 from n40), zst_id n37] at h
            rw [e2]
            exact h
          · intro y h1 h3 hall hp
            rw [zDi_i] at hp
            have hd := yR_r (b := M 3) (a := yA (M 3) n x) (y - yA (M 3) n x) (fun j hj => zDi_i.1 (hall _ (by omega) (by omega)))
            have hh := here (zst (zst M11 76 40 (yR (M 3) (yA (M 3) n x) (y - yA (M 3) n x))) 76 37 (y : Int)) y (f11.tr ((zFr.st1 (by decide)).st (by decide))) (by rw [zst_ns (by decide), zst_ns (by decide)]; exact n36) zst_eq (by omega)
            rw [if_neg (by omega)] at hh
            rw [gb_X11_next_168]
            refine zO_b1e hh (zO_b1e (t_in ⟨by omega, by omega⟩ ⟨by omega, by omega⟩ ⟨by omega, by omega⟩ hp) (zO_brn (by omega) (by omega) (by omega) ?_))
            rw [zst_ns (show (40 : Nat) ≠ 37 by decide), zst_eq]
            have hv : yR (M 3) (yA (M 3) n x) (y + 1 - yA (M 3) n x) = if yR (M 3) (yA (M 3) n x) (y - yA (M 3) n x) < 1000000 then 10 * yR (M 3) (yA (M 3) n x) (y - yA (M 3) n x) + M 3 y - 48 else yR (M 3) (yA (M 3) n x) (y - yA (M 3) n x) := by
              rw [show y + 1 - yA (M 3) n x = (y - yA (M 3) n x) + 1 by omega]
              show (if _ then _ else _) = _
              rw [show yA (M 3) n x + (y - yA (M 3) n x) = y by omega]
            refine zO_b1 (zO_br ⟨by omega, by omega⟩ ⟨by omega, by omega⟩ (fun hc => zO_some ?_) (fun hc => zO_b1e hh (zO_lt (zO_some ?_))))
            · refine zO_lt (zO_some ?_)
              rw [hv, if_neg (by omega), zst_zst, zst_eq]
              rfl
            · refine zO_lt (zO_some ?_)
              rw [hv, if_pos (by omega), zst_two (by decide), zst_ns (by decide), zst_eq]
              rfl
          · intro y h1 h3 hall hp
            have hh := here (zst (zst M11 76 40 (yR (M 3) (yA (M 3) n x) (y - yA (M 3) n x))) 76 37 (y : Int)) y (f11.tr ((zFr.st1 (by decide)).st (by decide))) (by rw [zst_ns (by decide), zst_ns (by decide)]; exact n36) zst_eq (by omega)
            have hv : ¬ (48 ≤ (if n ≤ y then -1 else M 3 y) ∧ (if n ≤ y then -1 else M 3 y) ≤ 57) ∧ zr (if n ≤ y then -1 else M 3 y) := by
              by_cases c : n ≤ y
              · rw [if_pos c]; omega
              · rw [if_neg c]
                have hp' := hp (by omega)
                rw [zDi_i] at hp'
                have hby := hbb y (by omega)
                exact ⟨hp', by omega, by omega⟩
            rw [gb_X11_next_168]
            generalize (if n ≤ y then (-1 : Int) else M 3 y) = v at *
            exact zO_b1e hh (zO_b1e (t_in_n hv.2 ⟨by omega, by omega⟩ ⟨by omega, by omega⟩ hv.1) (zO_brp (by omega) (by omega) (by omega) (zO_some rfl)))
        refine zO_b1e hloop ?_
        have q37 : zst (zst M11 76 40 (yR (M 3) (yA (M 3) n x) (yE (M 3) n x - yA (M 3) n x))) 76 37 (yE (M 3) n x : Int) 76 37 = (yE (M 3) n x : Int) := zst_eq
        have q38 : zst (zst M11 76 40 (yR (M 3) (yA (M 3) n x) (yE (M 3) n x - yA (M 3) n x))) 76 37 (yE (M 3) n x : Int) 76 38 = (yA (M 3) n x : Int) := by rw [zst_ns (by decide), zst_ns (by decide)]; exact n38
        rw [q37, q38]
        refine zO_br ⟨by omega, by omega⟩ ⟨by omega, by omega⟩ (fun hc => zO_lt (zO_some (end' _ (((zFr.st1 (by decide)).st (by decide)).st (by decide)) (fun s h h' h'' _ => by rw [zst_ns h', zst_ns h, zst_ns h'']) ?_ ?_ ?_ ?_))) (fun hc => zO_lt (zO_some (end' _ (((zFr.st1 (by decide)).st (by decide)).st (by decide)) (fun s h h' h'' _ => by rw [zst_ns h', zst_ns h, zst_ns h'']) ?_ ?_ ?_ ?_)))
        · rw [zst_ns (by decide), zst_eq]
        · rw [zst_eq]
          exact ⟨fun h => by omega, fun h => by omega, fun _ => by rw [if_neg (by omega)], fun h => by omega⟩
        · rw [zst_ns (by decide), zst_ns (by decide), zst_eq]; unfold yU; rw [k2, if_pos rfl]
        · rw [zst_ns (by decide), zst_ns (by decide), zst_ns (by decide), n41]; unfold yW; rw [k2, if_neg (by decide)]
        · rw [zst_ns (by decide), zst_eq]
        · rw [zst_eq]
          exact ⟨fun h => by omega, fun h => by omega, fun _ => by rw [if_pos (by omega)], fun h => by omega⟩
        · rw [zst_ns (by decide), zst_ns (by decide), zst_eq]; unfold yU; rw [k2, if_pos rfl]
        · rw [zst_ns (by decide), zst_ns (by decide), zst_ns (by decide), n41]; unfold yW; rw [k2, if_neg (by decide)]
      · have c2' : ¬ (48 ≤ M 3 (yA (M 3) n x) ∧ M 3 (yA (M 3) n x) ≤ 57) := fun h => c2 (zDi_i.2 h)
        have k3 : yK (M 3) n x = 3 := by unfold yK; rw [if_neg c0, if_neg c1, if_neg c2]
        have e3 : yE (M 3) n x = yA (M 3) n x + 1 := by unfold yE; rw [if_neg c0, if_neg c1, if_neg c2]
        refine zO_b1e (t_in_n ⟨by omega, by omega⟩ ⟨by omega, by omega⟩ ⟨by omega, by omega⟩ c2') (zO_brp (by omega) (by omega) (by omega) ?_)
        have fin : ∀ t : Int, yT (M 3) n x t → (fun M' => (zFr [76] M M' ∧ (∀ s, s < 37 ∨ 41 < s → M' 76 s = M 76 s) ∧ zTm (M 3) n x M')) (zst (zst M11 76 39 t) 76 37 (zst M11 76 39 t 76 37 + 1)) := by
          intro t ht
          refine end' _ ((zFr.st1 (by decide)).st (by decide)) (fun s h h' _ _ => by rw [zst_ns h, zst_ns h']) ?_ ?_ ?_ ?_
          · rw [zst_eq, zst_ns (by decide), n37, e3]
            omega
          · rw [zst_ns (by decide), zst_eq]
            exact ht
          · rw [zst_ns (by decide), zst_ns (by decide), n40]; unfold yU; rw [k3, if_neg (by decide)]
          · rw [zst_ns (by decide), zst_ns (by decide), n41]; unfold yW; rw [k3, if_neg (by decide)]
        generalize hv : M 3 (yA (M 3) n x) = v at *
        by_cases c3 : ySg v
        · refine zO_sp1 (zO_mono (Q := fun u => u = .inl M11) ?_ ?_)
          · unfold ySg at c3
            have z : ∀ a, zr v := fun _ => ⟨by omega, by omega⟩
            refine zO_br ⟨by omega, by omega⟩ ⟨by omega, by omega⟩ (fun _ => zO_some rfl) (fun _ => zO_br ⟨by omega, by omega⟩ ⟨by omega, by omega⟩ (fun _ => zO_some rfl) (fun _ => zO_br ⟨by omega, by omega⟩ ⟨by omega, by omega⟩ (fun _ => zO_some rfl) (fun _ => zO_br ⟨by omega, by omega⟩ ⟨by omega, by omega⟩ (fun _ => zO_some rfl) (fun _ => zO_br ⟨by omega, by omega⟩ ⟨by omega, by omega⟩ (fun _ => zO_some rfl) (fun _ => zO_brn ⟨by omega, by omega⟩ ⟨by omega, by omega⟩ (by omega) (zO_some rfl))))))
          · rintro u rfl
            refine show zO _ _ from zO_lt (zO_lt (zO_some (fin v ⟨fun h => by omega, fun h => by omega, fun h => by omega, fun _ => Or.inl ⟨by rw [hv]; exact c3, hv.symm⟩⟩)))
        · refine zO_sp1 (zO_mono (Q := fun u => u = .inr (zst (zst M11 76 39 3) 76 37 (zst M11 76 39 3 76 37 + 1))) ?_ ?_)
          · unfold ySg at c3
            exact zO_brn ⟨by omega, by omega⟩ ⟨by omega, by omega⟩ (by omega) (zO_brn ⟨by omega, by omega⟩ ⟨by omega, by omega⟩ (by omega) (zO_brn ⟨by omega, by omega⟩ ⟨by omega, by omega⟩ (by omega) (zO_brn ⟨by omega, by omega⟩ ⟨by omega, by omega⟩ (by omega) (zO_brn ⟨by omega, by omega⟩ ⟨by omega, by omega⟩ (by omega) (zO_brp ⟨by omega, by omega⟩ ⟨by omega, by omega⟩ (by omega) (zO_lt (zO_lt (zO_some rfl))))))))
          · rintro u rfl
            exact show zO _ _ from zO_some (fin 3 ⟨fun h => by omega, fun h => by omega, fun h => by omega, fun _ => Or.inr ⟨by rw [hv]; exact c3, rfl⟩⟩)

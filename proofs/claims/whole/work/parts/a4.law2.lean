/-! the law's case 37: image -/
theorem zv_eq {τ : Type} {bs : ByteArray} {own : String} {nL : Nat} {ret : Option FieldType} {κ : zC} {w : zW} {n : Nat × Nat × Nat} {pc : Nat} {L : List (Nat × Value)} {S : List Value} {M : zM} {o o' : Option τ} {E : τ → Prop} (e : o = o') (h : zV bs own nL ret κ w n pc L S M o' E) : zV bs own nL ret κ w n pc L S M o E := by rw [e]; exact h
theorem zbd_id {o : Option (zM × Int)} : o = zbd o (fun a b => some (a, b)) := by cases o <;> rfl
theorem c_image3 (l : Launch) {w : zW} (hw : zWk w) {M : zM} (hp0 : ztag w.1 1 = 11) (h13 : M 1 13 = 3) : zCn l yX10_image cX10_image 3 (some .int) 20 1 w [rn w 1] M (f_X10_refuse w.1 1 1 M) := by
  refine zCn_of (own := RX10) (by decide) rfl hw (Nat.le_of_ble_eq_true rfl) [(0, rn w 1)] rfl ?_
  intro κ hl
  subst hl
  refine zv_rload_n dX10_image_0 0 rfl ?_
  refine zg_RX10_85 dX10_image_1 hp0 ?_
  refine zv_iconst (z := 3) dX10_image_4 ?_
  refine zv_eq (o' := zbr (M 1 13) 3 (M 1 13 < 3) none (zbd (f_X10_refuse w.1 1 1 M) (fun a b => some (a, b)))) (by unfold zbr; rw [h13, if_pos ⟨⟨by omega, by omega⟩, by omega, by omega⟩, if_neg (by omega)]; exact zbd_id) ?_
  refine zv_icmp_lt (tgt := 14) dX10_image_5 (by decide) zv_none ?_
  refine zv_rload_n dX10_image_8 0 rfl ?_
  refine zv_iconst (z := 1) dX10_image_9 ?_
  refine zv_callVi [iv 1] (c_X10_refuse κ.2.1 hw 1 1 M hp0) zmd_X10_refuse zwI_X10_refuse zwS_X10_refuse zwM_RX10_99 zcd_10 hp0 rfl (by decide) rfl (Nat.le_of_ble_eq_true rfl) dX10_image_10 (fun M' v _ => ?_)
  exact zv_ret (fun h => h) (zv_iret dX10_image_13)
theorem zCx_g {bs : ByteArray} {own : String} {nL : Nat} {ret : Option FieldType} {κ : zC} {w w' : zW} {n n' : Nat × Nat × Nat} {i sz : Nat} (Y : zCx bs own nL ret κ w n) (hk : w.1 = zKn i) (hi : i < 3) (hg : zgw w w' i sz) (hs : κ.2.2.2.2.1.heap.size ≤ sz) (h1 : n'.1 ≤ κ.2.2.2.1.cells) (h2 : n'.2.1 ≤ κ.2.2.2.1.slots) (h3 : n'.2.2 = n.2.2) : zCx bs own nL ret κ w' n' := by
  obtain ⟨p, l, e, R, s, m, args, below, meth, c, A, Qc, mc, ms⟩ := κ
  obtain ⟨y1, y2, y3, y4, y5, y6, y7, y8, y9, ya, yb, yc, yd, -, -⟩ := Y
  obtain ⟨v1, v2, v3, v4, v5, v6⟩ := y8
  obtain ⟨g1, g2, g3, g4, g5⟩ := hg
  refine ⟨y1, y2, y3, y4, y5, y6, y7, ⟨?_, v2, fun q hq => ?_, ?_, v5, v6⟩, g4, fun q hq => ?_, yb, by rw [h3]; exact yc, by rw [h3]; exact yd, h1, h2⟩
  · unfold ztys at *
    rw [g2]
    exact v1
  · rw [g3 _ (Or.inr (by omega))]; exact v3 q hq
  · have f1 : (fun j => w'.2.1 (1000000 + j)) = fun j => w.2.1 (1000000 + j) := by funext x; exact g3 _ (Or.inr (by omega))
    have f2 : (fun j => w'.2.1 (2000000 + j)) = fun j => w.2.1 (2000000 + j) := by funext x; exact g3 _ (Or.inr (by omega))
    rw [f1, f2]; exact v4
  · rw [g1] at hq
    rcases Nat.lt_or_ge q (129 + 16 * i) with h | h
    · rw [g3 q (Or.inl h)]
      refine ya q ?_
      rw [hk]
      unfold ztag at *
      rw [zKi_o h] at hq
      exact hq
    · rcases Nat.lt_or_ge q (145 + 16 * i) with h' | h'
      · exact yb _ (Nat.le_trans hs (g5 q h h'))
      · exact absurd (zKi_z h') hq
theorem zB_img {κ : zC} {w : zW} (hw : zWk w) {i : Nat} (hk : w.1 = zKn i) (hi : i < 3) {M : zM} (hM : zNz M i) (h13 : M 1 13 = (i : Int)) {P : zM → Prop} (hP : ∀ N : zM, (∀ q, q < 129 + 16 * i → N q = M q) → ∃ A, f_X7_take (zKn (i + 1)) (129 + 16 * i) 4 N = some A ∧ A 1 13 = (i : Int) ∧ P (zst (zst A 20 i (129 + 16 * (i : Int))) 1 13 ((i : Int) + 1))) {n0 n1 : Nat} (hroom : n0 + 16 ≤ κ.2.2.2.1.cells ∧ n1 + 1486 ≤ κ.2.2.2.1.slots) {L : List (Nat × Value)}
    (k : ∀ (w' : zW) (B : zM) (sz : Nat), zgw w w' i sz → P B → zB cL_law RL 4 (some .boolean) κ w' (n0 + 16, n1 + 1486, 1000) (1642 + 3) L [iv (i : Int)] B) : zB cL_law RL 4 (some .boolean) κ w (n0, n1, 1000) 1642 L [rn w 1] M := by
  have hp0 : ztag w.1 1 = 11 := by rw [hk]; exact zt_1
  obtain ⟨p, l, e, R, s, m, args, below, meth, cd, A, Qc, mc, ms⟩ := κ
  intro Y H locs ls hH hS hl T hT XS
  have hts := Y.2.2.2.2.1
  have hK := Y.2.2.2.2.2.2.2.1.1
  have hE := Y.2.2.2.2.2.2.2.1
  have hA := zA_in (κ := (p, l, e, R, s, m, args, below, meth, cd, A, Qc, mc, ms)) rfl Y hS
  obtain ⟨r1, r2, r3, r4⟩ := Y.2.2.2.2.2.2.2.2.2.2.2
  have r1 : 1000 ≤ R.frames := r1
  have r2 : 60 * 1000 ≤ R.locals := r2
  obtain ⟨cell, q1, q2, q3, q4⟩ := zok_obj (hH 1 (by rw [hp0]; decide)) hp0 (by decide)
  have hRun := va_runV (p := p) (l := l) (e := e) (R := R) (s := s) (m := m) (args := args) (below := below) (meth := meth) (c := cd) (H := H) (locs := locs) (cells := n0) (slots := n1) (g := F0 m 1642 ls [rn w 1]) (As := []) (rest := []) (b := w.2.1 1) ⟨Y.1, Y.2.1, Y.2.2.1, Y.2.2.2.1, hts⟩ (m_image l hw hk hi hM h13 hP H.size) ⟨callB_of 0 hts (zgoodIn zwC_X10_image) rfl rfl rfl (hts _ (zmT zwN_RX10 rfl)) (hts _ (zmT zwM_RL_173 rfl)) ⟨by decide, by decide, by decide⟩ ⟨by show 20 + 1 ≤ R.frames; omega, by show 8 + (3 + 11) + 60 * 20 ≤ R.locals; omega⟩, hts _ (zmT zwI_X10_image rfl), hts _ (zmT zwS_X10_image rfl)⟩ ⟨zPc_blind, ⟨cell, q1, by rw [q3]; rfl, by rw [q2]; exact (hK.1 10 _ zcd_10.1).2.1⟩, fun U hU hW => ⟨rfl, by rw [hU], by rw [hU]; exact hH, zEv_call hE hS hA hU hW⟩⟩ rfl rfl hl.1 rfl (lv_room (Nat.le_of_ble_eq_true rfl)) dL_law_1642 hroom
  obtain ⟨v1, st0, u, T', Lo, h0, X', hLo, e1, e2, ⟨e3, ⟨w', B, hg, hPB, e4⟩, e5⟩, go⟩ := hRun T hT XS
  cases e3
  have hS' : va_S A s.heap T'.heap (locs ++ Lo) := by
    refine ⟨?_, fun q h1 h2 => ?_, fun q hq => ?_⟩
    · rw [e1]
      exact Nat.le_trans hS.1 (h0 ▸ e5.1)
    · rw [e1, e5.2 q (by rw [h0]; exact Nat.lt_of_lt_of_le h1 hS.1) (fun hz => h2 (hA q hz)), h0]
      exact hS.2.1 q h1 h2
    · rcases List.mem_append.mp hq with h1 | h1
      · exact hS.2.2 q h1
      · exact hA _ (hLo q h1)
  have K := k w' B H.size hg hPB (zCx_g (κ := (p, l, e, R, s, m, args, below, meth, cd, A, Qc, mc, ms)) Y hk hi hg hS.1 hroom.1 hroom.2 rfl) T'.heap (locs ++ Lo) ls (by rw [e1]; exact e4) hS' hl
  obtain ⟨tt, a1, b1⟩ := K T' rfl X'
  exact ⟨tt, go tt a1, b1⟩
theorem vL_37 {κ : zC} {w : zW} (hw : zWk w) {b i L : Nat} {M : zM} {E : zE} (hk : w.1 = zKn i) (hI : zInv i L M E) {n0 n1 : Nat} (hroom : n0 + 16 ≤ κ.2.2.2.1.cells ∧ n1 + 1486 ≤ κ.2.2.2.1.slots) {i3 : Int}
    (hE0 : ∀ L' M' E', zInv i L' M' E' → zB cL_law RL 4 (some .boolean) κ w (n0, n1, 1000) 1700 [(3, iv i3), (1, rn w 1), (2, rn w 76), (0, Value.ref b)] [] M')
    (hE : ∀ w' i' L' M' E', w'.1 = zKn i' → zWk w' → zInv i' L' M' E' → zB cL_law RL 4 (some .boolean) κ w' (n0 + 16, n1 + 1486, 1000) 1700 [(3, iv i3), (1, rn w' 1), (2, rn w' 76), (0, Value.ref b)] [] M') : zB cL_law RL 4 (some .boolean) κ w (n0, n1, 1000) 1641 [(3, iv i3), (1, rn w 1), (2, rn w 76), (0, Value.ref b)] [] M := by
  have hi3 : i ≤ 3 := hI.1.2.2.2.1.1
  have e13 : M 1 13 = (i : Int) := hI.1.2.2.2.2.1
  have hx1 : ztag w.1 1 = 11 := by rw [hk]; exact zt_1
  have hm1 : ztag w.1 76 = 12 := by rw [hk]; exact zt_76
  rcases Nat.lt_or_ge i 3 with hi | hi
  · have hM : zNz M i := by
      have a10 : M 1 10 = (L : Int) := hI.1.2.1.2.1
      have a11 : M 1 11 = 116 - (L : Int) := hI.1.2.1.2.2.1
      have aL := hI.1.2.1.1
      refine ⟨by omega, by omega, fun j hj => ?_⟩
      rcases Nat.lt_or_ge j i with h | h
      · have := (hI.1.2.2.2.2.2.2.1 j h).1
        omega
      · have := hI.1.2.2.2.1.2 j h hj
        omega
    have hP : ∀ N : zM, (∀ q, q < 129 + 16 * i → N q = M q) → ∃ A, f_X7_take (zKn (i + 1)) (129 + 16 * i) 4 N = some A ∧ A 1 13 = (i : Int) ∧ zO (g_X11_image (zKn (i + 1)) (zst (zst A 20 i (129 + 16 * (i : Int))) 1 13 ((i : Int) + 1))) (fun r => r.2 = (i : Int) ∧ zInv (i + 1) L r.1 E) := by
      intro N hN
      obtain ⟨A, hA, hA2⟩ := p_image_c hI hi hN
      obtain ⟨A', hA', hA3⟩ := f7_take (i := i + 1) (M := N) (zTr_i (by omega) (by omega)) zTr_4 (by omega : 129 + 16 * i + 15 < 4 ∨ 4 + 15 < 129 + 16 * i)
      rw [hA] at hA'
      cases hA'
      exact ⟨A, hA, by rw [hA3.1 1 (by omega), hN 1 (by omega)]; exact e13, hA2⟩
    refine (zv_rload_n (o := some ()) (E := fun _ => True) dL_law_1641 1 rfl (fun _ _ _ => ?_)) () rfl trivial
    refine zB_img (P := fun B => zO (g_X11_image (zKn (i + 1)) B) (fun r => r.2 = (i : Int) ∧ zInv (i + 1) L r.1 E)) hw hk hi hM e13 hP hroom (fun w' B sz hg hPB => ?_)
    obtain ⟨r, hr, hr2, hr3⟩ := hPB
    have hg' := hg
    obtain ⟨g1, g2, g3, g4, g5⟩ := hg
    have ea : rn w 1 = rn w' 1 := by unfold rn; rw [g3 1 (by omega)]
    have eb : rn w 76 = rn w' 76 := by unfold rn; rw [g3 76 (by omega)]
    have hm' : ztag w'.1 76 = 12 := by rw [g1]; exact zt_76
    rw [ea, eb]
    have hk2 := hE w' (i + 1) L r.1 E g1 g4 hr3
    have hf : f_X11_image w'.1 76 B = some r := by rw [g1, e_X11_image]; exact hr
    refine (zv_rload_n (o := zbd (f_X11_image w'.1 76 B) (fun M4 v3 => zeq (i : Int) v3 (some M4))) (E := fun M4 => M4 = r.1) dL_law_1645 2 rfl ?_) r.1 ?_ rfl
    · refine zv_callVi [] (c_X11_image κ.2.1 g4 76 B hm') zmd_X11_image zwI_X11_image zwS_X11_image zwM_RL_176 zcd_11 hm' rfl (Nat.le_of_ble_eq_true rfl) rfl (Nat.le_of_ble_eq_true rfl) dL_law_1646 (fun M4 v3 _ => ?_)
      refine zv_icmp_z (tgt := 1700) dL_law_1649 (by decide) (zv_exit (fun h => ?_))
      rw [h]
      exact hk2
    · rw [hf]
      show zeq (i : Int) r.2 (some r.1) = some r.1
      exact zeq_p hr2.symm
  · obtain rfl : i = 3 := by omega
    have hq := zP2_q (p_image_n hI)
    rw [← e_X11_image, ← e_X10_refuse, ← hk] at hq
    obtain ⟨M4, hM4, L', E', hI'⟩ := hq
    refine (zv_rload_n (o := zbd (f_X10_refuse w.1 1 1 M) (fun M2 v1 => zbd (f_X11_image w.1 76 M2) (fun M4 v3 => zeq v1 v3 (some M4)))) (E := fun M' => M' = M4) dL_law_1641 1 rfl ?_) M4 hM4 rfl
    refine zv_callVi [] (c_image3 κ.2.1 hw hx1 e13) zmd_X10_image zwI_X10_image zwS_X10_image zwM_RL_173 zcd_10 hx1 rfl (Nat.le_of_ble_eq_true rfl) rfl (Nat.le_of_ble_eq_true rfl) dL_law_1642 (fun M2 v1 _ => ?_)
    refine zv_rload_n dL_law_1645 2 rfl ?_
    refine zv_callVi [] (c_X11_image κ.2.1 hw 76 M2 hm1) zmd_X11_image zwI_X11_image zwS_X11_image zwM_RL_176 zcd_11 hm1 rfl (Nat.le_of_ble_eq_true rfl) rfl (Nat.le_of_ble_eq_true rfl) dL_law_1646 (fun M4' v3 _ => ?_)
    refine zv_icmp_z (tgt := 1700) dL_law_1649 (by decide) (zv_exit (fun h => ?_))
    rw [h]
    exact hE0 L' M4 E' hI'

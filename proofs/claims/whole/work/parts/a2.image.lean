/-! image: the machine -/
theorem zv_aast {τ : Type} {bs : ByteArray} {own : String} {nL : Nat} {ret : Option FieldType} {κ : zC} {w : zW} {n : Nat × Nat × Nat} {pc : Nat} {L : List (Nat × Value)} {S : List Value} {M : zM} {o : Option τ} {E : τ → Prop} {r q : Nat} {i len : Int} (d : decode bs pc = .ok (.aastore, 1)) (hr : ztag w.1 r = 24) (hL : ((zlen w.1 r : Nat) : Int) = len) (hb : len ≤ 2147483647) (hq : ztag w.1 q = 8) (hq0 : q ≠ 0) (hg : 0 ≤ i ∧ i < len) (k : zV bs own nL ret κ w n (pc + 1) L S (zst M r i.toNat (q : Int)) o E) : zV bs own nL ret κ w n pc L (rn w q :: iv i :: rn w r :: S) M o E := by
  intro t ho hE
  have k := k t ho hE
  obtain ⟨p, l, e, R, st, m, args, below, meth, cd, A, Qc, mc, ms⟩ := κ
  intro Y H locs ls hH hS hl
  have ha := zok_arr (hH r (by rw [hr]; decide)) hr (by decide)
  have hz := zix (n := zlen w.1 r) (by rw [hL]; exact hg) (by omega)
  have hK := Y.2.2.2.2.2.2.2.1.1
  have hne : ztag w.1 r ≠ 0 := by rw [hr]; decide
  obtain ⟨cellV, g1, g2, g3, -⟩ := zok_obj (hH q (by rw [hq]; decide)) hq (by decide)
  have hcls := (hK.1 7 (RX7, TX7, 20) rfl).2
  obtain ⟨kA, comp, k1, k2, k3, -⟩ := (hK.2 4 (w.2.2.2 24, .object "DrownedLand$Told") rfl).2
  have hcomp : comp = w.2.2.1.1 7 := Option.some.inj (k3.symm.trans hcls.1)
  subst hcomp
  obtain ⟨kC, hkC, -⟩ := hcls.2
  have hlt : i.toNat < zlen w.1 r := by omega
  refine W.aast Y.1 Y.2.1 ha (fun q h => by cases h) (fun h => by cases h) k1 k2 rfl hkC ⟨fun h => hz.1 (Or.inl h), by show _ < (arrV _ _ _).slots.size; rw [arrV_size, hz.2]; exact hlt⟩ g1 (fun q h => by rw [g3] at h; cases h) (by rw [g2]; exact hkC) (by rw [g2]; exact va_assign hcls) rfl rfl d fun H1 e1 z1 oq => ?_
  refine k Y H1 _ ls (zHp_put hH Y.2.2.2.2.2.2.2.2.1 hne oq (fun q hq => zst_ne hq) (zok_arr' hr (by decide) ?_)) (hS.put z1 oq (Y.2.2.2.2.2.2.2.2.2.1 r hne)) hl
  rw [e1, hz.2, arrV_store]
  congr 2
  funext j
  by_cases hj : j = i.toNat
  · subst hj
    simp [updV, zav, zst, rv, hq0]
  · simp [updV, zav, zst, hj]
/-- a world with one image more -/
def zgA (w : zW) (i : Nat) (al : List Nat) : zW := (zKn (i + 1), (fun q => if 129 + 16 * i ≤ q ∧ q < 145 + 16 * i then al.getD (q - (129 + 16 * i)) 0 else w.2.1 q), w.2.2)
def zgM (M : zM) (i : Nat) (g31 g33 : Nat → Int32) : zM := fun q s => if q < 129 + 16 * i then M q s else if q = 143 + 16 * i then (g31 s).toInt else if q = 144 + 16 * i then (g33 s).toInt else 0
/-- none of the references that may change goes beyond the images that stand -/
def zNz (M : zM) (i : Nat) : Prop := (M 1 10).toNat < 129 ∧ (M 1 11).toNat < 129 ∧ ∀ j, j < 3 → (M 20 j).toNat < 129 + 16 * i
theorem zKi_t : ∀ i, i < 3 → ∀ k, k < 16 → ztag (zKn (i + 1)) (129 + 16 * i + k) = if k = 0 then 8 else 20 := by decide +kernel
theorem zKi_l : ∀ i, i < 3 → ∀ k, k < 16 → zlen (zKn (i + 1)) (129 + 16 * i + k) = ([0, 256, 256, 16, 16, 60, 60, 60, 60, 10, 40, 40, 40, 40, 256, 256] : List Nat).getD k 0 := by decide +kernel
theorem zKi_o {i q : Nat} (h : q < 129 + 16 * i) : zKn (i + 1) q = zKn i q := by
  unfold zKn
  rw [if_pos (by omega), if_pos h]
theorem zKi_z {i q : Nat} (h : 145 + 16 * i ≤ q) : ztag (zKn (i + 1)) q = 0 := by
  unfold ztag zKn
  rw [if_neg (by omega)]
theorem zgA_o {w : zW} {i : Nat} {al : List Nat} {q : Nat} (h : q < 129 + 16 * i ∨ 145 + 16 * i ≤ q) : (zgA w i al).2.1 q = w.2.1 q := by
  unfold zgA
  dsimp only
  rw [if_neg (by omega)]
theorem zgA_n {w : zW} {i : Nat} {al : List Nat} {k : Nat} (h : k < 16) : (zgA w i al).2.1 (129 + 16 * i + k) = al.getD k 0 := by
  unfold zgA
  dsimp only
  rw [if_pos (by omega), Nat.add_sub_cancel_left]
theorem zgA_ok {w : zW} {M N : zM} {H H1 : Heap} {i q : Nat} {al : List Nat} (hk : w.1 = zKn i) (hi : i < 3) (hM : zNz M i) (hN : ∀ q, q < 129 + 16 * i → N q = M q) (hq : ztag w.1 q ≠ 0) (hH : H1[w.2.1 q]? = H[w.2.1 q]?) (h : zok w M H q) : zok (zgA w i al) N H1 q := by
  have hb : q < 129 + 16 * i := by
    rw [hk] at hq
    exact (zK_tag (by omega) rfl hq).2.2
  have h := zok_at h (hN q hb) hH
  have e0 : (zgA w i al).1 q = w.1 q := by rw [hk]; exact zKi_o hb
  have e1 : ztag (zgA w i al).1 q = ztag w.1 q := by unfold ztag; rw [e0]
  have e2 : zlen (zgA w i al).1 q = zlen w.1 q := by unfold zlen; rw [e0]
  have e3 : (zgA w i al).2.1 q = w.2.1 q := zgA_o (Or.inl hb)
  have e4 : (zgA w i al).2.2 = w.2.2 := rfl
  have rvE : ∀ x, x < 129 + 16 * i → rv (zgA w i al) x = rv w x := fun x hx => by unfold rv; rw [zgA_o (Or.inl hx)]
  rcases Nat.lt_or_ge 12 (ztag w.1 q) with hc | hc
  · have ha := zok_arr h rfl hc
    refine zok_arr' e1 hc ?_
    rw [e3, e2, e4, ha]
    congr 1
    refine arrV_congr (fun j hj => ?_)
    unfold zav
    split
    · rfl
    · split
      · rename_i h24
        have hq20 : q = 20 := by
          rw [hk] at h24
          obtain ⟨p1, p2, -⟩ := zK_tag (by omega) h24 (by decide)
          exact zK_24c q p1 p2
        subst hq20
        have hl : zlen w.1 20 = 3 := by
          rw [hk]
          unfold zlen zKn
          rw [if_pos (by omega)]
          rfl
        rw [hN 20 hb]
        exact (rvE _ (hM.2.2 j (by omega))).symm
      · rfl
  · obtain ⟨c, hcc⟩ : ∃ c, ztag w.1 q = c + 1 := ⟨ztag w.1 q - 1, by omega⟩
    have ho := zok_obj h hcc (by omega)
    refine zok_obj' (e1.trans hcc) (by omega) ?_
    rw [e3, e4]
    refine ho.to (fun s hs => ?_)
    unfold zfv
    split
    · rfl
    · rfl
    · rename_i h2
      have hT := zTyn (i := i) (by omega)
      rw [← hk] at hT
      have ht := (hT.2 q c s hcc hs h2).1
      have hx : zfr w.1 q s < 129 + 16 * i := by
        have hne : ztag w.1 (zfr w.1 q s) ≠ 0 := by rw [ht]; exact zgt_pos c (by omega) s hs h2
        rw [hk] at hne ⊢
        exact (zK_tag (by omega) rfl hne).2.2
      have e5 : zfr (zgA w i al).1 q s = zfr w.1 q s := by unfold zfr; rw [e0]
      rw [e5]
      unfold rn
      rw [zgA_o (Or.inl hx)]
    · rename_i h0 h1 h2
      obtain ⟨rfl, h10⟩ := zft3 c (by omega) s hs h0 h1 h2
      have hq1 : q = 1 := by
        rw [hk] at hcc
        obtain ⟨p1, p2, -⟩ := zK_tag (by omega) hcc (by decide)
        exact zK_11c q p1 p2
      subst hq1
      rw [hN 1 hb]
      rcases h10 with rfl | rfl
      · exact (rvE _ (by have := hM.1; omega)).symm
      · exact (rvE _ (by have := hM.2.1; omega)).symm
theorem zgA_tag {w : zW} {i q : Nat} {al : List Nat} (hk : w.1 = zKn i) (h : ztag (zgA w i al).1 q ≠ 0) : (q < 129 + 16 * i ∧ ztag w.1 q ≠ 0) ∨ ∃ k, k < 16 ∧ q = 129 + 16 * i + k := by
  rcases Nat.lt_or_ge q (129 + 16 * i) with h1 | h1
  · refine Or.inl ⟨h1, ?_⟩
    have e0 : (zgA w i al).1 q = w.1 q := by rw [hk]; exact zKi_o h1
    unfold ztag at h ⊢
    rw [e0] at h
    exact h
  · rcases Nat.lt_or_ge q (145 + 16 * i) with h2 | h2
    · exact Or.inr ⟨q - (129 + 16 * i), by omega, by omega⟩
    · exact absurd (zKi_z h2) h
theorem zgA_wk {w : zW} {i B : Nat} {al : List Nat} (hw : zWk w) (hk : w.1 = zKn i) (hi : i < 3) (hlt : ∀ q, ztag w.1 q ≠ 0 → w.2.1 q < B) (hal : ∀ k, k < 16 → B ≤ al.getD k 0) (hd : ∀ j k, j < 16 → k < 16 → al.getD j 0 = al.getD k 0 → j = k) : zWk (zgA w i al) := by
  refine ⟨zTyn (by omega), fun q q' h1 h2 h3 => ?_⟩
  rcases zgA_tag hk h1 with ⟨a1, a2⟩ | ⟨k, a1, rfl⟩ <;> rcases zgA_tag hk h2 with ⟨b1, b2⟩ | ⟨k', b1, rfl⟩
  · rw [zgA_o (Or.inl a1), zgA_o (Or.inl b1)] at h3
    exact hw.2 q q' a2 b2 h3
  · rw [zgA_o (Or.inl a1), zgA_n b1] at h3
    have := hlt q a2
    have := hal k' b1
    omega
  · rw [zgA_n a1, zgA_o (Or.inl b1)] at h3
    have := hlt q' b2
    have := hal k a1
    omega
  · rw [zgA_n a1, zgA_n b1] at h3
    rw [hd k k' a1 b1 h3]
def zgw (w w' : zW) (i sz : Nat) : Prop := w'.1 = zKn (i + 1) ∧ w'.2.2 = w.2.2 ∧ (∀ q, q < 129 + 16 * i ∨ 145 + 16 * i ≤ q → w'.2.1 q = w.2.1 q) ∧ zWk w' ∧ ∀ q, 129 + 16 * i ≤ q → q < 145 + 16 * i → sz ≤ w'.2.1 q
theorem zg_all {P : Nat → Prop} (h : P 0) (h' : ∀ k, 0 < k → k < 16 → P k) : ∀ k, k < 16 → P k := fun k hk => by
  rcases Nat.eq_zero_or_pos k with rfl | h0
  · exact h
  · exact h' k h0 hk
theorem zKi_f : ∀ i, i < 3 → ∀ a, a < 15 → zfr (zKn (i + 1)) (129 + 16 * i + 0) a = 129 + 16 * i + ([1, 14, 2, 15, 3, 4, 5, 6, 7, 8, 9, 10, 11, 12, 13] : List Nat).getD a 0 := by decide +kernel
/-- `new Told` -/
theorem zv_newT {τ : Type} {bs : ByteArray} {nL : Nat} {ret : Option FieldType} {κ : zC} {w : zW} {n : Nat × Nat × Nat} {pc : Nat} {L : List (Nat × Value)} {M : zM} {o : Option τ} {E : τ → Prop} {i : Nat} (hk : w.1 = zKn i) (hi : i < 3) (hM : zNz M i) (d1 : decode bs pc = .ok (.new 16, 3)) (d2 : decode bs (pc + 3) = .ok (.dup, 1)) (d3 : decode bs (pc + 3 + 1) = .ok (.invokespecial 18, 3)) (hd : 2 ≤ n.2.2) (hc : n.1 + 1 + 15 ≤ κ.2.2.2.1.cells) (hs : n.2.1 + 20 + 1466 ≤ κ.2.2.2.1.slots)
    (k : ∀ (w' : zW) (N : zM), zgw w w' i κ.2.2.2.2.1.heap.size → (∀ q, q < 129 + 16 * i → N q = M q) → zV bs RX10 nL ret κ w' (n.1 + 1 + 15, n.2.1 + 20 + 1466, n.2.2) (pc + 3 + 1 + 3) L [rn w' (129 + 16 * i)] N o E) : zV bs RX10 nL ret κ w n pc L [] M o E := by
  intro t ho hE
  have k := fun w' N h1 h2 => k w' N h1 h2 t ho hE
  obtain ⟨p, l, e, R, s, m, args, below, meth, cd, A, Qc, mc, ms⟩ := κ
  intro Y H locs ls hH hS hl
  have hc : n.1 + 1 + 15 ≤ R.cells := hc
  have hs : n.2.1 + 20 + 1466 ≤ R.slots := hs
  have hlt : ∀ q, ztag w.1 q ≠ 0 → w.2.1 q < H.size := fun q hq => zok_lt (hH q hq)
  obtain ⟨y1, y2, y3, y4, y5, y6, y7, y8, y9, ya, yb, yc, yd, ye, yf⟩ := Y
  obtain ⟨v1, v2, v3, v4, v5, v6⟩ := y8
  have hKn := v1.1 7 (RX7, TX7, 20) rfl
  refine W.newcK y1 y2 y4 (y5 _ (zmT zwL_RX10_16 rfl)) (y5 _ (zmT zwY_RX7 rfl)) (y5 _ (zmT zwN_RX7 rfl)) rfl d1 (by omega) (by omega) hKn.2.1 rfl fun H1 kC hkC e1 z1 o1 => ?_
  have hAH : A H.size := yb _ hS.1
  have hS1 : va_S A s.heap H1 locs := ⟨Nat.le_trans hS.1 (by omega), fun x h1 h2 => (o1 x (Nat.lt_of_lt_of_le h1 hS.1)).trans (hS.2.1 x h1 h2), hS.2.2⟩
  have hP1 : va_P (w.2.2.1.1, w.2.2.1.2) zcl [(H.size, .inr (7, [.null, .null, .null, .null, .null, .null, .null, .null, .null, .null, .null, .null, .null, .null, .null, .int 0, .int 0, .int 0, .int 0, .int 0]))] H1 := fun j x hx => by
    have hj : j < 1 := (List.getElem?_eq_some_iff.mp hx).1
    rw [show j = 0 by omega] at hx
    cases hx
    refine ⟨(RX7, TX7, 20), rfl, (u_born tyX7 y5 (zinT zin_7) hKn hkC e1 tyX7_ok).to ?_⟩
    exact lt_s (lt_s (lt_s (lt_s (lt_s (lt_s (lt_s (lt_s (lt_s (lt_s (lt_s (lt_s (lt_s (lt_s (lt_s (lt_s (lt_s (lt_s (lt_s (lt_s (lt_0) rfl) rfl) rfl) rfl) rfl) rfl) rfl) rfl) rfl) rfl) rfl) rfl) rfl) rfl) rfl) rfl) rfl) rfl) rfl) rfl
  have hD1 : va_D (fun _ => True) [(H.size, .inr (7, [.null, .null, .null, .null, .null, .null, .null, .null, .null, .null, .null, .null, .null, .null, .null, .int 0, .int 0, .int 0, .int 0, .int 0]))] := ⟨fun a b x y hx hy _ => by
    have ha : a < 1 := (List.getElem?_eq_some_iff.mp hx).1
    have hb : b < 1 := (List.getElem?_eq_some_iff.mp hy).1
    omega, fun _ _ _ => trivial⟩
  have hK0 : va_K (w.2.2.1.1, w.2.2.1.2) zcl [] s := ⟨v1.1, fun j x hx => by cases hx⟩
  have hF : ∀ q, va_A [(H.size, .inr (7, [.null, .null, .null, .null, .null, .null, .null, .null, .null, .null, .null, .null, .null, .null, .null, .int 0, .int 0, .int 0, .int 0, .int 0]))] H1.size q → A q := fun q hq => hq.elim (fun ⟨j, x, hx⟩ => by
    have hj : j < 1 := (List.getElem?_eq_some_iff.mp hx).1
    rw [show j = 0 by omega] at hx
    cases hx
    exact hAH) (fun h => yb q (Nat.le_trans hS1.1 h))
  refine lv_dup y1 y2 d2 rfl ?_
  refine va_callv (va_runI (As := []) (rest := [.ref H.size]) ⟨y1, y2, y3, y4, y5⟩ (ck_X7 l w.2.2.1.1 w.2.2.1.2 H.size H1.size) ⟨callB_of 0 y5 (zgoodIn zwC_X7_init) rfl rfl rfl (y5 _ (zmT zwN_RX7 rfl)) (y5 _ (zmT zwM_RX10_18 rfl)) ⟨by decide, by decide, by decide⟩ ⟨by show 1 + 1 ≤ R.frames; omega, by show 8 + (1 + 11) + 60 ≤ R.locals; omega⟩, rfl, y5 _ (zmT zwI_X7_init rfl)⟩ ⟨fun a U g mk q => by obtain ⟨q0, q1, qP, qK, qD, qN⟩ := q; exact ⟨q0, q1, qP, va_K.moved (u := U) (U := U.calling g mk a) (Vm.Alike.refl U.vm) qK, qD, fun q hq => va_Nw.same rfl rfl (qN q hq)⟩, fun U hU hW => ⟨rfl, by rw [hU], by rw [hU]; exact hP1, va_K.moved hW.alike hK0, hD1, fun q hq => va_Nw.warmM hW (v2 q hq)⟩⟩ rfl rfl hl.1 rfl (lv_room (Nat.le_of_ble_eq_true rfl)) d3 ⟨hc, hs⟩) hS1 (fun q _ h => hF q h) hF (fun u t2 H2 locs2 ht hvm hu hB2 hz2 hk2 hS2 => ?_)
  obtain ⟨g31, g33⟩ := u
  obtain ⟨q1, c2, q3, c4, q5, c6, q7, c8, q9, c10, q11, c12, q13, c14, q15, c16, q17, c18, q19, c20, q21, c22, q23, c24, q25, c26, q27, c28, q29, c30, hP2, hK2, hD2⟩ := hB2
  rw [ht] at hP2
  have hK2 := va_K.moved hvm.symm hK2
  have hcl := (v1.2 0 (w.2.2.2 20, .int) rfl).2
  have fc2 : c2 = w.2.2.2 20 := Option.some.inj ((hK2.2 0 (c2, .int) rfl).2.symm.trans hcl)
  have fc4 : c4 = w.2.2.2 20 := Option.some.inj ((hK2.2 1 (c4, .int) rfl).2.symm.trans hcl)
  have fc6 : c6 = w.2.2.2 20 := Option.some.inj ((hK2.2 2 (c6, .int) rfl).2.symm.trans hcl)
  have fc8 : c8 = w.2.2.2 20 := Option.some.inj ((hK2.2 3 (c8, .int) rfl).2.symm.trans hcl)
  have fc10 : c10 = w.2.2.2 20 := Option.some.inj ((hK2.2 4 (c10, .int) rfl).2.symm.trans hcl)
  have fc12 : c12 = w.2.2.2 20 := Option.some.inj ((hK2.2 5 (c12, .int) rfl).2.symm.trans hcl)
  have fc14 : c14 = w.2.2.2 20 := Option.some.inj ((hK2.2 6 (c14, .int) rfl).2.symm.trans hcl)
  have fc16 : c16 = w.2.2.2 20 := Option.some.inj ((hK2.2 7 (c16, .int) rfl).2.symm.trans hcl)
  have fc18 : c18 = w.2.2.2 20 := Option.some.inj ((hK2.2 8 (c18, .int) rfl).2.symm.trans hcl)
  have fc20 : c20 = w.2.2.2 20 := Option.some.inj ((hK2.2 9 (c20, .int) rfl).2.symm.trans hcl)
  have fc22 : c22 = w.2.2.2 20 := Option.some.inj ((hK2.2 10 (c22, .int) rfl).2.symm.trans hcl)
  have fc24 : c24 = w.2.2.2 20 := Option.some.inj ((hK2.2 11 (c24, .int) rfl).2.symm.trans hcl)
  have fc26 : c26 = w.2.2.2 20 := Option.some.inj ((hK2.2 12 (c26, .int) rfl).2.symm.trans hcl)
  have fc28 : c28 = w.2.2.2 20 := Option.some.inj ((hK2.2 13 (c28, .int) rfl).2.symm.trans hcl)
  have fc30 : c30 = w.2.2.2 20 := Option.some.inj ((hK2.2 14 (c30, .int) rfl).2.symm.trans hcl)
  rw [fc2] at hP2 hD2; rw [fc4] at hP2 hD2; rw [fc6] at hP2 hD2; rw [fc8] at hP2 hD2; rw [fc10] at hP2 hD2; rw [fc12] at hP2 hD2; rw [fc14] at hP2 hD2; rw [fc16] at hP2 hD2; rw [fc18] at hP2 hD2; rw [fc20] at hP2 hD2; rw [fc22] at hP2 hD2; rw [fc24] at hP2 hD2; rw [fc26] at hP2 hD2; rw [fc28] at hP2 hD2; rw [fc30] at hP2 hD2
  have hB : ∀ (j : Nat) (x : Nat × va_E), ([(H.size, .inr (7, [.ref q1, .ref q3, .ref q5, .ref q7, .ref q9, .ref q11, .ref q13, .ref q15, .ref q17, .ref q19, .ref q21, .ref q23, .ref q25, .ref q27, .ref q29, .int 0, .int 0, .int 0, .int 0, .int 0])), (q1, .inl (w.2.2.2 20, 256, .inl (fun _ => 0))), (q5, .inl (w.2.2.2 20, 256, .inl (fun _ => 0))), (q9, .inl (w.2.2.2 20, 16, .inl (fun _ => 0))), (q11, .inl (w.2.2.2 20, 16, .inl (fun _ => 0))), (q13, .inl (w.2.2.2 20, 60, .inl (fun _ => 0))), (q15, .inl (w.2.2.2 20, 60, .inl (fun _ => 0))), (q17, .inl (w.2.2.2 20, 60, .inl (fun _ => 0))), (q19, .inl (w.2.2.2 20, 60, .inl (fun _ => 0))), (q21, .inl (w.2.2.2 20, 10, .inl (fun _ => 0))), (q23, .inl (w.2.2.2 20, 40, .inl (fun _ => 0))), (q25, .inl (w.2.2.2 20, 40, .inl (fun _ => 0))), (q27, .inl (w.2.2.2 20, 40, .inl (fun _ => 0))), (q29, .inl (w.2.2.2 20, 40, .inl (fun _ => 0))), (q3, .inl (w.2.2.2 20, 256, .inl g31)), (q7, .inl (w.2.2.2 20, 256, .inl g33))] : va_W)[j]? = some x → H.size ≤ x.1 := fun j x hx => (hD2.2 j x hx).elim (fun ⟨j', e', h'⟩ => by
    have hj : j' < 1 := (List.getElem?_eq_some_iff.mp h').1
    rw [show j' = 0 by omega] at h'
    have := Option.some.inj h'
    have := congrArg Prod.fst this
    exact Nat.le_of_eq this) (fun h => by omega)
  have hget : ∀ j : Nat, j < 16 → ∃ x : Nat × va_E, ([(H.size, .inr (7, [.ref q1, .ref q3, .ref q5, .ref q7, .ref q9, .ref q11, .ref q13, .ref q15, .ref q17, .ref q19, .ref q21, .ref q23, .ref q25, .ref q27, .ref q29, .int 0, .int 0, .int 0, .int 0, .int 0])), (q1, .inl (w.2.2.2 20, 256, .inl (fun _ => 0))), (q5, .inl (w.2.2.2 20, 256, .inl (fun _ => 0))), (q9, .inl (w.2.2.2 20, 16, .inl (fun _ => 0))), (q11, .inl (w.2.2.2 20, 16, .inl (fun _ => 0))), (q13, .inl (w.2.2.2 20, 60, .inl (fun _ => 0))), (q15, .inl (w.2.2.2 20, 60, .inl (fun _ => 0))), (q17, .inl (w.2.2.2 20, 60, .inl (fun _ => 0))), (q19, .inl (w.2.2.2 20, 60, .inl (fun _ => 0))), (q21, .inl (w.2.2.2 20, 10, .inl (fun _ => 0))), (q23, .inl (w.2.2.2 20, 40, .inl (fun _ => 0))), (q25, .inl (w.2.2.2 20, 40, .inl (fun _ => 0))), (q27, .inl (w.2.2.2 20, 40, .inl (fun _ => 0))), (q29, .inl (w.2.2.2 20, 40, .inl (fun _ => 0))), (q3, .inl (w.2.2.2 20, 256, .inl g31)), (q7, .inl (w.2.2.2 20, 256, .inl g33))] : va_W)[j]? = some x ∧ ([H.size, q1, q5, q9, q11, q13, q15, q17, q19, q21, q23, q25, q27, q29, q3, q7] : List Nat).getD j 0 = x.1 := (lt_s (lt_s (lt_s (lt_s (lt_s (lt_s (lt_s (lt_s (lt_s (lt_s (lt_s (lt_s (lt_s (lt_s (lt_s (lt_s lt_0 ⟨_, rfl, rfl⟩) ⟨_, rfl, rfl⟩) ⟨_, rfl, rfl⟩) ⟨_, rfl, rfl⟩) ⟨_, rfl, rfl⟩) ⟨_, rfl, rfl⟩) ⟨_, rfl, rfl⟩) ⟨_, rfl, rfl⟩) ⟨_, rfl, rfl⟩) ⟨_, rfl, rfl⟩) ⟨_, rfl, rfl⟩) ⟨_, rfl, rfl⟩) ⟨_, rfl, rfl⟩) ⟨_, rfl, rfl⟩) ⟨_, rfl, rfl⟩) ⟨_, rfl, rfl⟩)
  have hwk : zWk (zgA w i [H.size, q1, q5, q9, q11, q13, q15, q17, q19, q21, q23, q25, q27, q29, q3, q7]) := zgA_wk (B := H.size) y9 hk hi hlt (fun j hj => by
    obtain ⟨x, x1, x2⟩ := hget j hj
    rw [x2]; exact hB j x x1) (fun a b ha hb hab => by
    obtain ⟨x, x1, x2⟩ := hget a ha
    obtain ⟨y, z1, z2⟩ := hget b hb
    exact hD2.1 a b x y x1 z1 (by rw [← x2, ← z2]; exact hab))
  have hge : ∀ q, 129 + 16 * i ≤ q → q < 145 + 16 * i → s.heap.size ≤ (zgA w i [H.size, q1, q5, q9, q11, q13, q15, q17, q19, q21, q23, q25, q27, q29, q3, q7]).2.1 q := fun q h1 h2 => by
    obtain ⟨j, hj, rfl⟩ : ∃ j, j < 16 ∧ q = 129 + 16 * i + j := ⟨q - (129 + 16 * i), by omega, by omega⟩
    rw [zgA_n hj]
    obtain ⟨x, x1, x2⟩ := hget j hj
    rw [x2]
    exact Nat.le_trans hS.1 (hB j x x1)
  have hNM : ∀ q, q < 129 + 16 * i → zgM M i g31 g33 q = M q := fun q hq => by
    funext j
    unfold zgM
    rw [if_pos hq]
  have ers : Value.ref H.size = rn (zgA w i [H.size, q1, q5, q9, q11, q13, q15, q17, q19, q21, q23, q25, q27, q29, q3, q7]) (129 + 16 * i) := by
    have := zgA_n (w := w) (i := i) (al := [H.size, q1, q5, q9, q11, q13, q15, q17, q19, q21, q23, q25, q27, q29, q3, q7]) (k := 0) (by decide)
    rw [Nat.add_zero] at this
    unfold rn
    rw [this]
    rfl
  have hK8 : zEv (zgA w i [H.size, q1, q5, q9, q11, q13, q15, q17, q19, q21, q23, q25, q27, q29, q3, q7]) A s := by
    refine ⟨v1, v2, fun q hq => ?_, ?_, v5, v6⟩
    · rw [zgA_o (Or.inr (by omega))]; exact v3 q hq
    · have f1 : (fun j => (zgA w i [H.size, q1, q5, q9, q11, q13, q15, q17, q19, q21, q23, q25, q27, q29, q3, q7]).2.1 (1000000 + j)) = fun j => w.2.1 (1000000 + j) := by funext x; exact zgA_o (Or.inr (by omega))
      have f2 : (fun j => (zgA w i [H.size, q1, q5, q9, q11, q13, q15, q17, q19, q21, q23, q25, q27, q29, q3, q7]).2.1 (2000000 + j)) = fun j => w.2.1 (2000000 + j) := by funext x; exact zgA_o (Or.inr (by omega))
      rw [f1, f2]; exact v4
  have hAA : ∀ q, ztag (zgA w i [H.size, q1, q5, q9, q11, q13, q15, q17, q19, q21, q23, q25, q27, q29, q3, q7]).1 q ≠ 0 → A ((zgA w i [H.size, q1, q5, q9, q11, q13, q15, q17, q19, q21, q23, q25, q27, q29, q3, q7]).2.1 q) := fun q hq => by
    rcases zgA_tag hk hq with ⟨a1, a2⟩ | ⟨j, a1, rfl⟩
    · rw [zgA_o (Or.inl a1)]; exact ya q a2
    · exact yb _ (hge _ (by omega) (by omega))
  have hold : ∀ q, ztag w.1 q ≠ 0 → H2[w.2.1 q]? = H[w.2.1 q]? := fun q hq => by
    have hql := hlt q hq
    rw [hk2 _ (by omega) (fun h => h.elim (fun ⟨j, x, hx⟩ => by
      have hj : j < 1 := (List.getElem?_eq_some_iff.mp hx).1
      rw [show j = 0 by omega] at hx
      have := congrArg Prod.fst (Option.some.inj hx)
      have : H.size = w.2.1 q := this
      omega) (fun h => by omega)), o1 _ hql]
  have hnew : ∀ j, j < 16 → zok (zgA w i [H.size, q1, q5, q9, q11, q13, q15, q17, q19, q21, q23, q25, q27, q29, q3, q7]) (zgM M i g31 g33) H2 (129 + 16 * i + j) := by
    have h0 : zok (zgA w i [H.size, q1, q5, q9, q11, q13, q15, q17, q19, q21, q23, q25, q27, q29, q3, q7]) (zgM M i g31 g33) H2 (129 + 16 * i + 0) := by
      refine zokO (c := 7) (zKi_t i hi 0 (by decide)) (by decide) (zgA_n (by decide)) (zclN _) (hP2 0 _ rfl) ?_
      have hz : ∀ j, zgM M i g31 g33 (129 + 16 * i + 0) j = 0 := fun j => by unfold zgM; rw [if_neg (by omega), if_neg (by omega), if_neg (by omega)]
      have hr : ∀ a b, b < 16 → zfr (zKn (i + 1)) (129 + 16 * i + 0) a = 129 + 16 * i + b → rn (zgA w i [H.size, q1, q5, q9, q11, q13, q15, q17, q19, q21, q23, q25, q27, q29, q3, q7]) (zfr (zgA w i [H.size, q1, q5, q9, q11, q13, q15, q17, q19, q21, q23, q25, q27, q29, q3, q7]).1 (129 + 16 * i + 0) a) = Value.ref (([H.size, q1, q5, q9, q11, q13, q15, q17, q19, q21, q23, q25, q27, q29, q3, q7] : List Nat).getD b 0) := fun a b hb h => by
        show rn _ (zfr (zKn (i + 1)) (129 + 16 * i + 0) a) = _
        rw [h]
        unfold rn
        rw [zgA_n hb]
      have hzi : ∀ a, zft 7 a = 0 → zfv (zgA w i [H.size, q1, q5, q9, q11, q13, q15, q17, q19, q21, q23, q25, q27, q29, q3, q7]) (zgM M i g31 g33) (129 + 16 * i + 0) 7 a = iv 0 := fun a ha => by
        unfold zfv
        rw [ha]
        show iv _ = _
        rw [hz]
      have hzr : ∀ a b, zft 7 a = 2 → b < 16 → zfr (zKn (i + 1)) (129 + 16 * i + 0) a = 129 + 16 * i + b → zfv (zgA w i [H.size, q1, q5, q9, q11, q13, q15, q17, q19, q21, q23, q25, q27, q29, q3, q7]) (zgM M i g31 g33) (129 + 16 * i + 0) 7 a = Value.ref (([H.size, q1, q5, q9, q11, q13, q15, q17, q19, q21, q23, q25, q27, q29, q3, q7] : List Nat).getD b 0) := fun a b ha hb h => by
        unfold zfv
        rw [ha]
        exact hr a b hb h
      exact (lt_s (lt_s (lt_s (lt_s (lt_s (lt_s (lt_s (lt_s (lt_s (lt_s (lt_s (lt_s (lt_s (lt_s (lt_s (lt_s (lt_s (lt_s (lt_s (lt_s lt_0 ((hzr 0 1 rfl (by decide) (zKi_f i hi 0 (by decide))).symm)) ((hzr 1 14 rfl (by decide) (zKi_f i hi 1 (by decide))).symm)) ((hzr 2 2 rfl (by decide) (zKi_f i hi 2 (by decide))).symm)) ((hzr 3 15 rfl (by decide) (zKi_f i hi 3 (by decide))).symm)) ((hzr 4 3 rfl (by decide) (zKi_f i hi 4 (by decide))).symm)) ((hzr 5 4 rfl (by decide) (zKi_f i hi 5 (by decide))).symm)) ((hzr 6 5 rfl (by decide) (zKi_f i hi 6 (by decide))).symm)) ((hzr 7 6 rfl (by decide) (zKi_f i hi 7 (by decide))).symm)) ((hzr 8 7 rfl (by decide) (zKi_f i hi 8 (by decide))).symm)) ((hzr 9 8 rfl (by decide) (zKi_f i hi 9 (by decide))).symm)) ((hzr 10 9 rfl (by decide) (zKi_f i hi 10 (by decide))).symm)) ((hzr 11 10 rfl (by decide) (zKi_f i hi 11 (by decide))).symm)) ((hzr 12 11 rfl (by decide) (zKi_f i hi 12 (by decide))).symm)) ((hzr 13 12 rfl (by decide) (zKi_f i hi 13 (by decide))).symm)) ((hzr 14 13 rfl (by decide) (zKi_f i hi 14 (by decide))).symm)) ((hzi 15 rfl).symm)) ((hzi 16 rfl).symm)) ((hzi 17 rfl).symm)) ((hzi 18 rfl).symm)) ((hzi 19 rfl).symm))
    exact (lt_s (lt_s (lt_s (lt_s (lt_s (lt_s (lt_s (lt_s (lt_s (lt_s (lt_s (lt_s (lt_s (lt_s (lt_s (lt_s lt_0 h0)
      (zokI (n := 256) (f := (fun _ => 0)) (zKi_t i hi 1 (by decide)) (Or.inl rfl) (zKi_l i hi 1 (by decide)) (zgA_n (by decide)) (hP2 1 _ rfl) (fun j => by unfold zgM; rw [if_neg (by omega), if_neg (by omega), if_neg (by omega)]; rfl)))
      (zokI (n := 256) (f := (fun _ => 0)) (zKi_t i hi 2 (by decide)) (Or.inl rfl) (zKi_l i hi 2 (by decide)) (zgA_n (by decide)) (hP2 2 _ rfl) (fun j => by unfold zgM; rw [if_neg (by omega), if_neg (by omega), if_neg (by omega)]; rfl)))
      (zokI (n := 16) (f := (fun _ => 0)) (zKi_t i hi 3 (by decide)) (Or.inl rfl) (zKi_l i hi 3 (by decide)) (zgA_n (by decide)) (hP2 3 _ rfl) (fun j => by unfold zgM; rw [if_neg (by omega), if_neg (by omega), if_neg (by omega)]; rfl)))
      (zokI (n := 16) (f := (fun _ => 0)) (zKi_t i hi 4 (by decide)) (Or.inl rfl) (zKi_l i hi 4 (by decide)) (zgA_n (by decide)) (hP2 4 _ rfl) (fun j => by unfold zgM; rw [if_neg (by omega), if_neg (by omega), if_neg (by omega)]; rfl)))
      (zokI (n := 60) (f := (fun _ => 0)) (zKi_t i hi 5 (by decide)) (Or.inl rfl) (zKi_l i hi 5 (by decide)) (zgA_n (by decide)) (hP2 5 _ rfl) (fun j => by unfold zgM; rw [if_neg (by omega), if_neg (by omega), if_neg (by omega)]; rfl)))
      (zokI (n := 60) (f := (fun _ => 0)) (zKi_t i hi 6 (by decide)) (Or.inl rfl) (zKi_l i hi 6 (by decide)) (zgA_n (by decide)) (hP2 6 _ rfl) (fun j => by unfold zgM; rw [if_neg (by omega), if_neg (by omega), if_neg (by omega)]; rfl)))
      (zokI (n := 60) (f := (fun _ => 0)) (zKi_t i hi 7 (by decide)) (Or.inl rfl) (zKi_l i hi 7 (by decide)) (zgA_n (by decide)) (hP2 7 _ rfl) (fun j => by unfold zgM; rw [if_neg (by omega), if_neg (by omega), if_neg (by omega)]; rfl)))
      (zokI (n := 60) (f := (fun _ => 0)) (zKi_t i hi 8 (by decide)) (Or.inl rfl) (zKi_l i hi 8 (by decide)) (zgA_n (by decide)) (hP2 8 _ rfl) (fun j => by unfold zgM; rw [if_neg (by omega), if_neg (by omega), if_neg (by omega)]; rfl)))
      (zokI (n := 10) (f := (fun _ => 0)) (zKi_t i hi 9 (by decide)) (Or.inl rfl) (zKi_l i hi 9 (by decide)) (zgA_n (by decide)) (hP2 9 _ rfl) (fun j => by unfold zgM; rw [if_neg (by omega), if_neg (by omega), if_neg (by omega)]; rfl)))
      (zokI (n := 40) (f := (fun _ => 0)) (zKi_t i hi 10 (by decide)) (Or.inl rfl) (zKi_l i hi 10 (by decide)) (zgA_n (by decide)) (hP2 10 _ rfl) (fun j => by unfold zgM; rw [if_neg (by omega), if_neg (by omega), if_neg (by omega)]; rfl)))
      (zokI (n := 40) (f := (fun _ => 0)) (zKi_t i hi 11 (by decide)) (Or.inl rfl) (zKi_l i hi 11 (by decide)) (zgA_n (by decide)) (hP2 11 _ rfl) (fun j => by unfold zgM; rw [if_neg (by omega), if_neg (by omega), if_neg (by omega)]; rfl)))
      (zokI (n := 40) (f := (fun _ => 0)) (zKi_t i hi 12 (by decide)) (Or.inl rfl) (zKi_l i hi 12 (by decide)) (zgA_n (by decide)) (hP2 12 _ rfl) (fun j => by unfold zgM; rw [if_neg (by omega), if_neg (by omega), if_neg (by omega)]; rfl)))
      (zokI (n := 40) (f := (fun _ => 0)) (zKi_t i hi 13 (by decide)) (Or.inl rfl) (zKi_l i hi 13 (by decide)) (zgA_n (by decide)) (hP2 13 _ rfl) (fun j => by unfold zgM; rw [if_neg (by omega), if_neg (by omega), if_neg (by omega)]; rfl)))
      (zokI (n := 256) (f := g31) (zKi_t i hi 14 (by decide)) (Or.inl rfl) (zKi_l i hi 14 (by decide)) (zgA_n (by decide)) (hP2 14 _ rfl) (fun j => by unfold zgM; rw [if_neg (by omega), if_pos (by omega)])))
      (zokI (n := 256) (f := g33) (zKi_t i hi 15 (by decide)) (Or.inl rfl) (zKi_l i hi 15 (by decide)) (zgA_n (by decide)) (hP2 15 _ rfl) (fun j => by unfold zgM; rw [if_neg (by omega), if_neg (by omega), if_pos (by omega)])))
  rw [ers]
  exact k (zgA w i [H.size, q1, q5, q9, q11, q13, q15, q17, q19, q21, q23, q25, q27, q29, q3, q7]) (zgM M i g31 g33) ⟨rfl, rfl, fun q hq => zgA_o hq, hwk, hge⟩ hNM ⟨y1, y2, y3, y4, y5, y6, y7, hK8, hwk, hAA, yb, yc, yd, hc, hs⟩ H2 locs2 ls (fun q hq => by
    rcases zgA_tag hk hq with ⟨a1, a2⟩ | ⟨j, a1, rfl⟩
    · exact zgA_ok hk hi hM hNM a2 (hold q a2) (hH q a2)
    · exact hnew j a1) hS2 hl
theorem zv_sw {τ τ' : Type} {bs : ByteArray} {own : String} {nL : Nat} {ret : Option FieldType} {κ : zC} {w : zW} {n : Nat × Nat × Nat} {pc : Nat} {L : List (Nat × Value)} {S : List Value} {M : zM} {o : Option τ} {E : τ → Prop} {o' : Option τ'} {E' : τ' → Prop} (t' : τ') (h : zV bs own nL ret κ w n pc L S M o' E') (ho : o' = some t') (hE : E' t') : zV bs own nL ret κ w n pc L S M o E := fun _ _ _ => h t' ho hE
theorem vI_image {κ : zC} {w : zW} {i : Nat} (hk : w.1 = zKn i) (hi : i < 3) {M : zM} (hM : zNz M i) (h13 : M 1 13 = (i : Int)) {P : zM → Prop} (hP : ∀ N : zM, (∀ q, q < 129 + 16 * i → N q = M q) → ∃ A, f_X7_take (zKn (i + 1)) (129 + 16 * i) 4 N = some A ∧ A 1 13 = (i : Int) ∧ P (zst (zst A 20 i (129 + 16 * (i : Int))) 1 13 ((i : Int) + 1))) (hc : 16 ≤ κ.2.2.2.1.cells) (hs : 1486 ≤ κ.2.2.2.1.slots)
    (hE : ∀ w' B, zgw w w' i κ.2.2.2.2.1.heap.size → P B → zRt κ w' (16, 1486, 20) 1 (B, (i : Int))) : zV cX10_image RX10 3 (some .int) κ w (0, 0, 20) 0 [(0, rn w 1)] [] M (some ()) (fun _ => True) := by
  have hp0 : ztag w.1 1 = 11 := by rw [hk]; exact zt_1
  refine zv_rload_n dX10_image_0 0 rfl ?_
  refine zg_RX10_85 dX10_image_1 hp0 ?_
  refine zv_iconst (z := 3) dX10_image_4 ?_
  refine zv_sw (o' := zbr (M 1 13) 3 (M 1 13 < 3) (some ()) none) (E' := fun _ => True) () ?_ (by unfold zbr; rw [h13, if_pos ⟨⟨by omega, by omega⟩, by omega, by omega⟩, if_pos (by omega)]) trivial
  refine zv_icmp_lt (tgt := 14) dX10_image_5 (by decide) ?_ zv_none
  refine zv_rload_n dX10_image_14 0 rfl ?_
  refine zg_RX10_85 dX10_image_15 hp0 ?_
  rw [h13]
  refine zv_istore_np (L' := [(1, iv (i : Int)), (0, rn w 1)]) (by rfl) dX10_image_18 (by decide) rfl ?_
  refine zv_newT hk hi hM dX10_image_19 dX10_image_22 dX10_image_23 (by decide) hc hs (fun w' N hg hN => ?_)
  have hg' := hg
  obtain ⟨g1, g2, g3, g4, g5⟩ := hg
  obtain ⟨A, hA, hA13, hPA⟩ := hP N hN
  have e0 : rn w 1 = rn w' 1 := by unfold rn; rw [g3 1 (by omega)]
  rw [e0]
  have t1 : ztag w'.1 1 = 11 := by rw [g1]; exact zt_1
  have t4 : ztag w'.1 4 = 8 := by rw [g1]; exact zt_4
  have t20 : ztag w'.1 20 = 24 := by rw [g1]; exact zt_20
  have l20 : ((zlen w'.1 20 : Nat) : Int) = 3 := by rw [g1, zl_20]; rfl
  have t8 : ztag w'.1 (129 + 16 * i) = 8 := by rw [g1]; exact zKi_t i hi 0 (by decide)
  have z1 : zfr w'.1 1 1 = 4 := by rw [g1]; exact zQ_ (by decide) rfl
  have z2 : zfr w'.1 1 2 = 20 := by rw [g1]; exact zQ_ (by decide) rfl
  refine zv_rstore_np (L' := [(2, rn w' (129 + 16 * i)), (1, iv (i : Int)), (0, rn w' 1)]) (by rfl) dX10_image_26 (by decide) rfl ?_
  refine zv_rload_n dX10_image_27 0 rfl ?_
  refine zv_rload_n dX10_image_28 2 rfl ?_
  refine zg_RX10_19 dX10_image_29 t1 ?_
  rw [z1]
  refine zv_pre (oc := (f_X7_take w'.1 (129 + 16 * i) 4 N).map fun m => (m, (0 : Int))) (X := fun _ _ => some ()) ?_ (by rw [g1, hA]; rfl)
  refine zv_callVv [rn w' 4] (c_X7_take κ.2.1 g4 (129 + 16 * i) 4 N t8 t4) zmd_X7_take zwI_X7_take zwS_X7_take zwM_RX10_193 zcd_7 t8 rfl (by decide) rfl (Nat.le_of_ble_eq_true rfl) dX10_image_32 (fun M1 v hv => ?_)
  rw [g1, hA] at hv
  cases hv
  refine zv_rload_n dX10_image_35 2 rfl ?_
  refine zg_RX10_23 dX10_image_36 t1 ?_
  rw [z2]
  refine zv_iload_n dX10_image_39 1 rfl ?_
  refine zv_rload_n dX10_image_40 0 rfl ?_
  refine zv_aast (len := 3) dX10_image_41 t20 l20 (by decide) t8 (by omega) ⟨by omega, by omega⟩ ?_
  rw [Int.toNat_natCast, show ((129 + 16 * i : Nat) : Int) = 129 + 16 * (i : Int) by omega]
  refine zv_rload_n dX10_image_42 2 rfl ?_
  refine zv_dup dX10_image_43 rfl ?_
  refine zg_RX10_85 dX10_image_44 t1 ?_
  rw [show zst A 20 i (129 + 16 * (i : Int)) 1 13 = (i : Int) by rw [zst_ne (by decide)]; exact hA13]
  refine zv_iconst (z := 1) dX10_image_47 ?_
  refine zv_iadd dX10_image_48 ?_
  refine zv_sw (o' := zlt (zst (zst A 20 i (129 + 16 * (i : Int))) 1 13 ((i : Int) + 1)) (fun M' => some M')) (E' := fun M' => M' = zst (zst A 20 i (129 + 16 * (i : Int))) 1 13 ((i : Int) + 1)) _ ?_ rfl rfl
  refine zp_RX10_85 dX10_image_49 t1 (fun M' => ?_)
  intro u hu hEu
  cases hu
  subst hEu
  exact (zv_iload_n dX10_image_52 1 rfl (zv_ret (x := ()) (E := fun _ => True) (t := (_, (i : Int))) (fun _ => hE w' _ hg' hPA) (zv_iret dX10_image_53))) () rfl trivial
/-- image's contract: a world with one image more -/
def zQi (w : zW) (i : Nat) (P : zM → Prop) (sz : Nat) : Array Value → State → Outcome → State → Prop := fun _ st oc t => oc = .returned (some (iv (i : Int))) ∧ (∃ w' B, zgw w w' i sz ∧ P B ∧ zHp w' B t.heap) ∧ va_F (zA w sz) st t
theorem m_image (l : Launch) {w : zW} (hw : zWk w) {i : Nat} (hk : w.1 = zKn i) (hi : i < 3) {M : zM} (hM : zNz M i) (h13 : M 1 13 = (i : Int)) {P : zM → Prop} (hP : ∀ N : zM, (∀ q, q < 129 + 16 * i → N q = M q) → ∃ A, f_X7_take (zKn (i + 1)) (129 + 16 * i) 4 N = some A ∧ A 1 13 = (i : Int) ∧ P (zst (zst A 20 i (129 + 16 * (i : Int))) 1 13 ((i : Int) + 1))) (sz : Nat) : Met l yX10_image (zws yX10_image cX10_image 3 (some .int)) (zrooN 20 16 1486) (zPc w [rn w 1] M sz) (zQi w i P sz) 16 1486 (zA w sz) := by
  refine Met.ofW (cc := cX10_image) (maxL := 3) (ret := some .int) (by decide) rfl ?_
  intro p e st m args below meth cd s₁ B hml hv
  obtain ⟨rfl, hsz, hPp, hK⟩ := hv
  have hts : ∀ x ∈ zws yX10_image cX10_image 3 (some .int), x.before ([rn w 1] : List Value).toArray st = true := atoms_spec (ws := zws yX10_image cX10_image 3 (some .int)) B.pre
  have hcls : st.vm.findClass yX10_image.cls = some m.cls := findClass_of_methodNamed B.named
  have hl := lv_entry [rn w 1] (n := 3) (Nat.le_of_ble_eq_true rfl)
  rw [lg_entry_eq]
  have K := vI_image (κ := (p, l, e, (headSpec (zws yX10_image cX10_image 3 (some .int)) (zrooN 20 16 1486)).room, st, m, ([rn w 1] : List Value).toArray, below, meth, cd, zA w sz, zQi w i P sz, 16, 1486)) hk hi hM h13 hP (Nat.le_refl _) (Nat.le_refl _) (fun w' B h1 h2 => ⟨Nat.le_refl _, Nat.le_refl _, fun H locs u h3 h4 h5 => ⟨rfl, ⟨w', B, by rw [← hsz]; exact h1, h2, by rw [h5]; exact h3⟩, h4.F h5⟩⟩) () rfl trivial
    ⟨B.exec, B.bytes, hml, hcls, fun x hx => hts x (List.mem_cons_of_mem _ hx), B.returns, B.notSynchronized, hK, hw, fun r hr => Or.inl ⟨r, hr, rfl⟩, fun q hq => Or.inr (by rw [← hsz]; exact hq), Nat.le_refl _, Nat.le_refl _, Nat.zero_le _, Nat.zero_le _⟩
    st.heap [] _ hPp (va_S.rf) hl
  exact K

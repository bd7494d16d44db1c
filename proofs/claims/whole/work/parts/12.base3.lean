/-! fields and arrays -/
def zCd (c : Nat) (C : String) (T : u_T) (N : Nat) (ty : Nat → FieldType) : Prop := zcl[c]? = some (C, T, N) ∧ znf c = N ∧ c < 12 ∧ (∀ x ∈ u_ws C T N, x ∈ zT) ∧ (∀ k, k < N → parseFieldDescriptor (T k).2.2.1 = some (ty k)) ∧ (∀ a, a < N → ∀ b, b < N → a ≠ b → (T a).2.1 ≠ (T b).2.1)
theorem zinT {C : String} {T : u_T} {N : Nat} (h : ∀ x ∈ u_ws C T N, x ∈ lw_tbl) : ∀ x ∈ u_ws C T N, x ∈ zT := fun x hx => zmT (h x hx) (by
  obtain ⟨k, -, rfl⟩ := List.mem_map.mp hx
  unfold u_lay
  split <;> rfl)
theorem zcd_0 : zCd 0 RX0 TX0 1 tyX0 := ⟨rfl, rfl, by decide, zinT zin_0, tyX0_ok, nmX0⟩
theorem zcd_1 : zCd 1 RX1 TX1 2 tyX1 := ⟨rfl, rfl, by decide, zinT zin_1, tyX1_ok, nmX1⟩
theorem zcd_2 : zCd 2 RX2 TX2 11 tyX2 := ⟨rfl, rfl, by decide, zinT zin_2, tyX2_ok, nmX2⟩
theorem zcd_3 : zCd 3 RX3 TX3 15 tyX3 := ⟨rfl, rfl, by decide, zinT zin_3, tyX3_ok, nmX3⟩
theorem zcd_4 : zCd 4 RX4 TX4 3 tyX4 := ⟨rfl, rfl, by decide, zinT zin_4, tyX4_ok, nmX4⟩
theorem zcd_5 : zCd 5 RX5 TX5 2 tyX5 := ⟨rfl, rfl, by decide, zinT zin_5, tyX5_ok, nmX5⟩
theorem zcd_6 : zCd 6 RX6 TX6 8 tyX6 := ⟨rfl, rfl, by decide, zinT zin_6, tyX6_ok, nmX6⟩
theorem zcd_7 : zCd 7 RX7 TX7 20 tyX7 := ⟨rfl, rfl, by decide, zinT zin_7, tyX7_ok, nmX7⟩
theorem zcd_8 : zCd 8 RX8 TX8 7 tyX8 := ⟨rfl, rfl, by decide, zinT zin_8, tyX8_ok, nmX8⟩
theorem zcd_9 : zCd 9 RX9 TX9 7 tyX9 := ⟨rfl, rfl, by decide, zinT zin_9, tyX9_ok, nmX9⟩
theorem zcd_10 : zCd 10 RX10 TX10 15 tyX10 := ⟨rfl, rfl, by decide, zinT zin_10, tyX10_ok, nmX10⟩
theorem zcd_11 : zCd 11 RX11 TX11 73 tyX11 := ⟨rfl, rfl, by decide, zinT zin_11, tyX11_ok, nmX11⟩
theorem zst_ne {M : zM} {r s q : Nat} {v : Int} (h : q ≠ r) : zst M r s v q = M q := by funext j; simp [zst, h]
theorem zst_eq {M : zM} {r s : Nat} {v : Int} : zst M r s v r s = v := by simp [zst]
theorem zst_ns {M : zM} {r s j : Nat} {v : Int} (h : j ≠ s) : zst M r s v r j = M r j := by simp [zst, h]
theorem zfv_at {w : zW} {M M' : zM} {r c s : Nat} (h : M' r = M r) : zfv w M' r c s = zfv w M r c s := by unfold zfv; rw [h]
theorem zav_at {w : zW} {M M' : zM} {r t j : Nat} (h : M' r = M r) : zav w M' r t j = zav w M r t j := by unfold zav; rw [h]
theorem zok_at {w : zW} {M M' : zM} {H H1 : Heap} {r : Nat} (h : zok w M H r) (hM : M' r = M r) (hH : H1[w.2.1 r]? = H[w.2.1 r]?) : zok w M' H1 r := by
  unfold zok at h ⊢
  split at h
  · rename_i hc
    rw [if_pos hc]
    exact (h.kept hH).to (fun k _ => (zfv_at hM).symm)
  · rename_i hc
    rw [if_neg hc, hH, h]
    congr 2
    funext j
    exact (zav_at hM).symm
theorem zHp_put {w : zW} {M M' : zM} {H H1 : Heap} {r : Nat} (hH : zHp w M H) (hw : zWk w) (hr : ztag w.1 r ≠ 0) (oq : ∀ q : Nat, q ≠ w.2.1 r → H1[q]? = H[q]?) (hM : ∀ q, q ≠ r → M' q = M q) (hn : zok w M' H1 r) : zHp w M' H1 := by
  intro q hq
  by_cases h : q = r
  · subst h; exact hn
  · exact zok_at (hH q hq) (hM q h) (oq _ (fun e => h (hw.2 q r hq hr e)))
theorem zok_obj {w : zW} {M : zM} {H : Heap} {r c : Nat} (h : zok w M H r) (hr : ztag w.1 r = c + 1) (hc : c < 12) : t_OB (w.2.1 r) (w.2.2.1.1 c) (znf c) (w.2.2.1.2 c) H (zfv w M r c) := by
  unfold zok at h
  rw [hr, if_pos (by omega), Nat.add_sub_cancel] at h
  exact h
theorem zok_obj' {w : zW} {M : zM} {H : Heap} {r c : Nat} (hr : ztag w.1 r = c + 1) (hc : c < 12) (h : t_OB (w.2.1 r) (w.2.2.1.1 c) (znf c) (w.2.2.1.2 c) H (zfv w M r c)) : zok w M H r := by
  unfold zok
  rw [hr, if_pos (by omega), Nat.add_sub_cancel]
  exact h
theorem zok_arr {w : zW} {M : zM} {H : Heap} {r t : Nat} (h : zok w M H r) (hr : ztag w.1 r = t) (ht : 12 < t) : H[w.2.1 r]? = some (arrV (w.2.2.2 t) (zlen w.1 r) (zav w M r t)) := by
  unfold zok at h
  rw [hr, if_neg (by omega)] at h
  exact h
theorem zok_arr' {w : zW} {M : zM} {H : Heap} {r t : Nat} (hr : ztag w.1 r = t) (ht : 12 < t) (h : H[w.2.1 r]? = some (arrV (w.2.2.2 t) (zlen w.1 r) (zav w M r t))) : zok w M H r := by
  unfold zok
  rw [hr, if_neg (by omega)]
  exact h
theorem zix {i : Int} {n : Nat} (h : 0 ≤ i ∧ i < (n : Int)) (hn : n < 2147483648) : ¬ (Int32.ofInt i < 0 ∨ n ≤ (Int32.ofInt i).toNatClampNeg) ∧ (Int32.ofInt i).toNatClampNeg = i.toNat := by
  have hz : zr i := ⟨by omega, by omega⟩
  have e : (Int32.ofInt i).toNatClampNeg = i.toNat := by
    unfold Int32.toNatClampNeg
    rw [zi_int hz]
  refine ⟨?_, e⟩
  rintro (h1 | h1)
  · have := (zi_lt (b := 0) hz zr_0).mp h1
    omega
  · rw [e] at h1
    omega
section zF
variable {τ : Type} {bs : ByteArray} {own : String} {nL : Nat} {ret : Option FieldType} {κ : zC} {w : zW} {n : Nat × Nat × Nat} {pc : Nat} {L : List (Nat × Value)} {S : List Value} {M : zM} {o : Option τ} {E : τ → Prop}
theorem zv_get {r c s idx N : Nat} {C : String} {T : u_T} {ty : Nat → FieldType} {v : Value} (hC : zCd c C T N ty) (hs : s < N) (hv : zfv w M r c s = v) (hw : Cond.fieldLink own idx (T s).1 (T s).2.1 (T s).2.2.1 ∈ lw_tbl) (d : decode bs pc = .ok (.getfield idx, 3)) (hr : ztag w.1 r = c + 1)
    (k : zV bs own nL ret κ w n (pc + 3) L (v :: S) M o E) : zV bs own nL ret κ w n pc L (rn w r :: S) M o E := by
  intro t ho hE
  have k := k t ho hE
  obtain ⟨p, l, e, R, st, m, args, below, meth, cd, A, Qc, mc, ms⟩ := κ
  intro X H locs ls hH hS hl
  have hts := X.2.2.2.2.1
  obtain ⟨cell, q1, q2, q3, q4⟩ := zok_obj (hH r (by rw [hr]; omega)) hr hC.2.2.1
  have hK := X.2.2.2.2.2.2.2.1.1
  obtain ⟨hSl, hfc, kC, hkC, hkind⟩ := hK.1 c _ hC.1
  obtain ⟨cf, kf, fi, f, hi, hsl⟩ := hSl s hs
  refine W.getf X.1 X.2.1 X.2.2.2.1 (hts _ (zmT hw rfl)) hi (u_facts hfc hkC (u_lays hts hC.2.2.2.1 hs) hi).1 q1 (by rw [q3]; exact fun h => by cases h) (v := v) ?_ rfl rfl d (k X H locs ls hH hS hl)
  rw [hsl, q4 s (by rw [hC.2.1]; exact hs), hv]
theorem zv_put {r c s idx N : Nat} {C : String} {T : u_T} {ty : Nat → FieldType} {v : Value} {z : Int} {X : zM → Option τ} (hC : zCd c C T N ty) (hs : s < N) (hv : ∀ M : zM, zfv w (zst M r s z) r c s = v) (hfin : (T s).2.2.2 = false) (hn : narrow (ty s) v = v) (hfit : fits (ty s) v = true) (hw : Cond.fieldLink own idx (T s).1 (T s).2.1 (T s).2.2.1 ∈ lw_tbl) (d : decode bs pc = .ok (.putfield idx, 3)) (hr : ztag w.1 r = c + 1)
    (k : ∀ M', zV bs own nL ret κ w n (pc + 3) L S M' (X M') E) : zV bs own nL ret κ w n pc L (v :: rn w r :: S) M (zlt (zst M r s z) X) E := by
  intro t ho hE
  have k := k _ t ho hE
  obtain ⟨p, l, e, R, st, m, args, below, meth, cd, A, Qc, mc, ms⟩ := κ
  intro Y H locs ls hH hS hl
  have hts := Y.2.2.2.2.1
  obtain ⟨cell, q1, q2, q3, q4⟩ := zok_obj (hH r (by rw [hr]; omega)) hr hC.2.2.1
  have hK := Y.2.2.2.2.2.2.2.1.1
  have hwk := Y.2.2.2.2.2.2.2.2.1
  have hap := va_apart (own := own) hts hC.2.2.2.1 ty hC.2.2.2.2.1 hC.2.2.2.2.2 hK hC.1
  obtain ⟨hSl, hfc, kC, hkC, hkind⟩ := hK.1 c _ hC.1
  obtain ⟨cf, kf, fi, f, hi, hsl⟩ := hSl s hs
  have hlay := hts _ (hC.2.2.2.1 _ (u_in_lay hs))
  unfold u_lay at hlay
  rw [if_neg (by rw [hfin]; decide)] at hlay
  have hst := (u_facts hfc hkC (u_lays hts hC.2.2.2.1 hs) hi).1
  have h6 := u_store hfc hkC hkind hlay hi (hC.2.2.2.2.1 s hs) hn hfit
  refine W.putK Y.1 Y.2.1 (f := f) ⟨Y.2.2.2.1, hts _ (zmT hw rfl), ⟨_, _, _, hi⟩, hst⟩ (by rw [q2]; exact h6) q1 q3 (by rw [hsl]; exact k2_hasslot (q4 s (by rw [hC.2.1]; exact hs))) rfl rfl d fun H' e1 e2 e3 => ?_
  rw [hsl] at e1 ⊢
  have hne : ztag w.1 r ≠ 0 := by rw [hr]; omega
  have hok : zok w (zst M r s z) H' r := by
    refine zok_obj' hr hC.2.2.1 (t_OB.to (V := updV (zfv w M r c) s v) ⟨_, e1, q2, q3, t_set q4 (by rw [hC.2.1]; exact hap) (by rw [hC.2.1]; exact hs) v⟩ (fun j _ => ?_))
    by_cases hj : j = s
    · subst hj
      rw [hv M]
      simp [updV]
    · simp only [updV, if_neg hj]
      unfold zfv
      rw [zst_ns hj]
  exact k Y H' _ ls (zHp_put hH hwk hne e3 (fun q hq => zst_ne hq) hok) (hS.put e2 e3 (Y.2.2.2.2.2.2.2.2.2.1 r hne)) hl
end zF

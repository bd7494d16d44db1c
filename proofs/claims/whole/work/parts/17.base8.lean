/-! System.arraycopy of whole numbers from the first place on -/
def zcp (M : zM) (r q n : Nat) : zM := fun a b => if a = q ∧ b < n then M r b else M a b
theorem zwX_cpn : Cond.native arraycopyName ∈ lw_tbl := zmt 679 (by decide +kernel)
theorem zwX_cps : Cond.static arraycopyName ∈ lw_tbl := zmt 678 (by decide +kernel)
theorem zwX_cpi : Cond.initialized "java/lang/System" ∈ lw_tbl := zmt 18 (by decide +kernel)
section zO
variable {τ : Type} {bs : ByteArray} {own : String} {nL : Nat} {ret : Option FieldType} {κ : zC} {w : zW} {n : Nat × Nat × Nat} {pc : Nat} {L : List (Nat × Value)} {S : List Value} {M : zM} {o : Option τ} {E : τ → Prop}
theorem zv_copy {r q idx : Nat} {z lr lq : Int} {X : zM → Option τ} (hlk : Cond.methodLink own idx arraycopyName ∈ lw_tbl) (hd : 1 ≤ n.2.2) (hW : (S.map fun v => v.category).sum ≤ 8) (hr : ztag w.1 r = 20) (hq : ztag w.1 q = 20) (hlr : ((zlen w.1 r : Nat) : Int) = lr) (hlq : ((zlen w.1 q : Nat) : Int) = lq) (hb : lr ≤ 2147483647) (d : decode bs pc = .ok (.invokestatic idx, 3))
    (k : ∀ M', zV bs own nL ret κ w n (pc + 3) L S M' (X M') E) : zV bs own nL ret κ w n pc L (iv z :: iv 0 :: rn w q :: iv 0 :: rn w r :: S) M (zgd (0 ≤ z ∧ z ≤ lr ∧ z ≤ lq) (zlt (zcp M r q z.toNat) X)) E := zv_gd fun hg => by
  intro t ho hE
  have k := k _ t ho hE
  obtain ⟨p, l, e, R, st, m, args, below, meth, cd, A, Qc, mc, ms⟩ := κ
  intro Y H locs ls hH hS hl T hT XS
  have hts := Y.2.2.2.2.1
  obtain ⟨r1, r2, r3, r4⟩ := Y.2.2.2.2.2.2.2.2.2.2.2
  have hK := Y.2.2.2.2.2.2.2.1.1
  have c0 := zok_arr (hH r (by rw [hr]; decide)) hr (by decide)
  have c1 := zok_arr (hH q (by rw [hq]; decide)) hq (by decide)
  have a0 : zav w M r 20 = fun j => Value.int (Int32.ofInt (M r j)) := by funext j; simp [zav, iv]
  have a1 : zav w M q 20 = fun j => Value.int (Int32.ofInt (M q j)) := by funext j; simp [zav, iv]
  rw [a0] at c0
  rw [a1] at c1
  have zz : zr z := ⟨by omega, by omega⟩
  have en : (Int32.ofInt z).toNatClampNeg = z.toNat := by unfold Int32.toNatClampNeg; rw [zi_int zz]
  have e0 : (Int32.ofInt 0).toNatClampNeg = 0 := by decide
  have ti : (Int32.ofInt z).toInt = z := zi_int zz
  have t0 : (Int32.ofInt 0).toInt = 0 := by decide
  obtain ⟨-, k0, hk0, cm0, hkk0⟩ := (hK.2 0 (w.2.2.2 20, .int) rfl).1 (zlen w.1 r) (fun j => Value.int (Int32.ofInt (M r j)))
  obtain ⟨-, k1, hk1, cm1, hkk1⟩ := (hK.2 0 (w.2.2.2 20, .int) rfl).1 (zlen w.1 q) (fun j => Value.int (Int32.ofInt (M q j)))
  have hnf : nativeFrameWords "java/lang/System" "arraycopy" 5 ≤ 30 := by decide
  obtain ⟨vm', X', step⟩ := XS.arraycopy Y.1 Y.2.2.2.1 (hts _ (zmT hlk rfl)) (hts _ (zmT zwX_cpn rfl)) (hts _ (zmT zwX_cps rfl)) (hts _ (zmT zwX_cpi rfl)) (src := w.2.1 r) (dst := w.2.1 q) (srcPos := Int32.ofInt 0) (destPos := Int32.ofInt 0) (n := Int32.ofInt z) (by rw [hT]; exact c0) (by rw [hT]; exact c1)
    (fun _ h => by cases h) (fun _ h => by cases h) (fun h => by cases h) (fun h => by cases h) hk0 hk1 hkk0 hkk1 (by simp [refKind]) (by decide) (by decide) (by intro h; have := (zi_lt zz zr_0).mp (by rw [zi_0]; exact h); omega)
    (by rw [ti, t0]; show ¬ _ > ((arrV _ (zlen w.1 r) _).slots.size : Int); rw [arrV_size]; omega)
    (by rw [ti, t0]; show ¬ _ > ((arrV _ (zlen w.1 q) _).slots.size : Int); rw [arrV_size]; omega)
    (fun vm₁ _ i hi => by
      rw [en] at hi
      have e : (arrV (w.2.2.2 20) (zlen w.1 r) (fun j => Value.int (Int32.ofInt (M r j)))).slots.getD ((Int32.ofInt 0).toNatClampNeg + i) .null = .int (Int32.ofInt (M r i)) := by
        rw [e0, Nat.zero_add, Array.getD_eq_getD_getElem?, arrV_read _ _ (by omega)]
        rfl
      rw [e]
      exact ⟨rfl, trivial⟩)
    (g := F0 m pc ls (iv z :: iv 0 :: rn w q :: iv 0 :: rn w r :: S)) rfl (by rw [Y.2.2.1]; exact hl.1) (rest := S) rfl (by rw [Y.2.1]; exact d) (by omega) (by show 2 * 0 + _ + (nativeFrameWords "java/lang/System" "arraycopy" 5 + 11) ≤ _; omega)
  have e1 := va_copied (fun x => Value.int x) (w.2.2.2 20) (w.2.2.2 20) (n0 := zlen w.1 r) (n1 := zlen w.1 q) (sp := (Int32.ofInt 0).toNatClampNeg) (dp := (Int32.ofInt 0).toNatClampNeg) (n := (Int32.ofInt z).toNatClampNeg) (fun j => Int32.ofInt (M r j)) (fun j => Int32.ofInt (M q j)) (by rw [e0, en]; omega)
  have e2 : copied (arrV (w.2.2.2 20) (zlen w.1 r) (fun j => Value.int (Int32.ofInt (M r j)))) (arrV (w.2.2.2 20) (zlen w.1 q) (fun j => Value.int (Int32.ofInt (M q j)))) (Int32.ofInt 0) (Int32.ofInt 0) (Int32.ofInt z) = arrV (w.2.2.2 20) (zlen w.1 q) (zav w (zcp M r q z.toNat) q 20) := by
    refine e1.trans ?_
    congr 1
    funext j
    simp only [va_cpy, e0, en, zav, zcp, iv, Nat.zero_add, Nat.zero_le, true_and, Nat.sub_zero]
    by_cases hj : j < z.toNat <;> simp [hj]
  rw [e2] at X' step
  have hlt : w.2.1 q < T.heap.size := by rw [hT]; exact (Array.getElem?_eq_some_iff.mp c1).1
  have hne : ztag w.1 q ≠ 0 := by rw [hq]; decide
  have oq : ∀ a : Nat, a ≠ w.2.1 q → (((T.setVm vm').setCell (w.2.1 q) (arrV (w.2.2.2 20) (zlen w.1 q) (zav w (zcp M r q z.toNat) q 20))).heap)[a]? = H[a]? := fun a ha => by rw [← hT]; exact heapAt_setCell_ne _ (Ne.symm ha)
  have hs : (((T.setVm vm').setCell (w.2.1 q) (arrV (w.2.2.2 20) (zlen w.1 q) (zav w (zcp M r q z.toNat) q 20))).heap).size = H.size := by rw [← hT]; exact size_setCell _ _ _
  have hH' : zHp w (zcp M r q z.toNat) ((T.setVm vm').setCell (w.2.1 q) (arrV (w.2.2.2 20) (zlen w.1 q) (zav w (zcp M r q z.toNat) q 20))).heap := by
    refine zHp_put hH Y.2.2.2.2.2.2.2.2.1 hne oq (fun a ha => ?_) (zok_arr' hq (by decide) (heapAt_setCell_self _ hlt))
    funext b
    simp [zcp, ha]
  have hS' : ∀ Lo : List Loc, (∀ x ∈ Lo, x.base = w.2.1 q) → va_S A st.heap ((T.setVm vm').setCell (w.2.1 q) (arrV (w.2.2.2 20) (zlen w.1 q) (zav w (zcp M r q z.toNat) q 20))).heap (locs ++ Lo) := by
    intro Lo hLo
    have hAq := Y.2.2.2.2.2.2.2.2.2.1 q hne
    refine ⟨by rw [hs]; exact hS.1, fun a g1 g2 => ?_, fun a ha => ?_⟩
    · rw [oq a (fun e => g2 (by rw [e]; exact hAq))]
      exact hS.2.1 a g1 g2
    · rcases List.mem_append.mp ha with g | g
      · exact hS.2.2 a g
      · rw [hLo a g]
        exact hAq
  obtain ⟨tt, a1', b1⟩ := k Y _ _ ls hH' (hS' _ (fun x hx => by obtain ⟨z, -, hz⟩ := List.mem_map.mp hx; rw [← hz])) hl _ rfl X'
  exact ⟨tt, step tt a1', b1⟩
end zO

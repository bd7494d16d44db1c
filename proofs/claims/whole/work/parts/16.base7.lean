/-! plain contracts, Math, divisions by constants -/
theorem zpuE {oc : Option Int} {M M' : zM} {v : Int} (h : (oc.map fun v => (M, v)) = some (M', v)) : M = M' := by
  cases oc with
  | none => cases h
  | some u => cases h; rfl
def zmin (a b : Int) : Int := if b < a then b else a
def zmax (a b : Int) : Int := if a < b then b else a
def zabs (a : Int) : Int := if 0 < a then a else -a
theorem zi_absE {a : Int} (h : zr a) : (if 0 ≤ Int32.ofInt a then Int32.ofInt a else 0 - Int32.ofInt a) = Int32.ofInt (zabs a) := by
  have h0 := zi_le zr_0 h
  rw [zi_0] at h0
  unfold zabs
  by_cases h1 : 0 < a
  · rw [if_pos h1, if_pos (h0.mpr (by omega))]
  · rw [if_neg h1]
    by_cases h2 : a = 0
    · subst h2; rfl
    · rw [if_neg (fun h => h2 (by have := h0.mp h; omega)), ← zi_0, ← zi_sub]
      congr 1
      omega
section zZ
variable {bs : ByteArray} {own : String} {nL : Nat} {κ : zC} {w : zW} {n : Nat × Nat × Nat} {pc : Nat} {L : List (Nat × Value)} {M : zM}
theorem zv_zrB {v : Int} (hg : v = 0 ∨ v = 1) (d : decode bs pc = .ok (.ireturn, 1)) : zV bs own nL (some .boolean) κ w n pc L [iv v] M (some (M, v)) (zRt κ w n 1) := by
  have h := zv_zret (own := own) (nL := nL) (κ := κ) (w := w) (n := n) (L := L) (M := M) (v := v) d
  unfold zgd at h
  rw [if_pos hg] at h
  exact h
end zZ
section zQ
variable {τ : Type} {bs : ByteArray} {own : String} {nL : Nat} {ret : Option FieldType} {κ : zC} {w : zW} {n : Nat × Nat × Nat} {pc : Nat} {L : List (Nat × Value)} {S : List Value} {M : zM} {o : Option τ} {E : τ → Prop}
theorem zv_idivc {a b : Int} (hb : 0 < b ∧ b ≤ 2147483647) (d : decode bs pc = .ok (.idiv, 1)) (k : zV bs own nL ret κ w n (pc + 1) L (iv (a / b) :: S) M o E) : zV bs own nL ret κ w n pc L (iv b :: iv a :: S) M (zgd (0 ≤ a ∧ a ≤ 2147483647) o) E := zv_gd fun hg => by
  have h := zv_idiv d k
  unfold zgd at h
  rw [if_pos ⟨hg, hb⟩] at h
  exact h
theorem zv_iremc {a b : Int} (hb : 0 < b ∧ b ≤ 2147483647) (d : decode bs pc = .ok (.irem, 1)) (k : zV bs own nL ret κ w n (pc + 1) L (iv (a % b) :: S) M o E) : zV bs own nL ret κ w n pc L (iv b :: iv a :: S) M (zgd (0 ≤ a ∧ a ≤ 2147483647) o) E := zv_gd fun hg => by
  have h := zv_irem d k
  unfold zgd at h
  rw [if_pos ⟨hg, hb⟩] at h
  exact h
theorem zv_ldivc {a b : Int} (hb : 0 < b ∧ b ≤ 9223372036854775807) (d : decode bs pc = .ok (.ldiv, 1)) (k : zV bs own nL ret κ w n (pc + 1) L (jv (a / b) :: S) M o E) : zV bs own nL ret κ w n pc L (jv b :: jv a :: S) M (zgd (0 ≤ a ∧ a ≤ 9223372036854775807) o) E := zv_gd fun hg => by
  have h := zv_ldiv d k
  unfold zgd at h
  rw [if_pos ⟨hg, hb⟩] at h
  exact h
theorem zv_lremc {a b : Int} (hb : 0 < b ∧ b ≤ 9223372036854775807) (d : decode bs pc = .ok (.lrem, 1)) (k : zV bs own nL ret κ w n (pc + 1) L (jv (a % b) :: S) M o E) : zV bs own nL ret κ w n pc L (jv b :: jv a :: S) M (zgd (0 ≤ a ∧ a ≤ 9223372036854775807) o) E := zv_gd fun hg => by
  have h := zv_lrem d k
  unfold zgd at h
  rw [if_pos ⟨hg, hb⟩] at h
  exact h
end zQ
theorem zwT_mabs : Cond.static Lib.Math.abs.name ∈ lw_tbl := zmt 927 (by decide +kernel)
theorem zwC_mabs : Cond.code Lib.Math.abs.name Lib.Math.abs.code 1 (some .int) ∈ lw_tbl := zmt 928 (by decide +kernel)
theorem zwT_mabsl : Cond.static Lib.MathLoose.abs_long.x ∈ lw_tbl := zmt 1038 (by decide +kernel)
theorem zwC_mabsl : Cond.code Lib.MathLoose.abs_long.x Lib.MathLoose.abs_long.code 2 (some .long) ∈ lw_tbl := zmt 1039 (by decide +kernel)
theorem zwT_mmin : Cond.static Lib.Math.min.name ∈ lw_tbl := zmt 720 (by decide +kernel)
theorem zwC_mmin : Cond.code Lib.Math.min.name Lib.Math.min.code 2 (some .int) ∈ lw_tbl := zmt 721 (by decide +kernel)
theorem zwT_mmax : Cond.static Lib.Math.max.name ∈ lw_tbl := zmt 973 (by decide +kernel)
theorem zwC_mmax : Cond.code Lib.Math.max.name Lib.Math.max.code 2 (some .int) ∈ lw_tbl := zmt 974 (by decide +kernel)

section zQ2
variable {τ : Type} {bs : ByteArray} {own : String} {nL : Nat} {ret : Option FieldType} {κ : zC} {w : zW} {n : Nat × Nat × Nat} {pc : Nat} {L : List (Nat × Value)} {S : List Value} {M : zM} {o : Option τ} {E : τ → Prop}
theorem zv_mmin {a b : Int} {idx : Nat} (hlk : Cond.methodLink own idx ⟨"java/lang/Math", "min", "(II)I"⟩ ∈ lw_tbl) (hd : 1 ≤ n.2.2) (hW : (S.map fun v => v.category).sum ≤ 8) (d : decode bs pc = .ok (.invokestatic idx, 3)) (k : zV bs own nL ret κ w n (pc + 3) L (iv (zmin a b) :: S) M o E) : zV bs own nL ret κ w n pc L (iv b :: iv a :: S) M (zgd (zr a ∧ zr b) o) E := zv_gd fun hg => by
  intro t ho hE
  have k := k t ho hE
  obtain ⟨p, l, e, R, st, m, args, below, meth, cd, A, Qc, mc, ms⟩ := κ
  intro X H locs ls hH hS hl
  have hts := X.2.2.2.2.1
  obtain ⟨r1, r2, r3, r4⟩ := X.2.2.2.2.2.2.2.2.2.2.2
  have K := k X H locs ls hH hS hl
  refine va_mmin X.1 X.2.1 (by rw [X.2.2.1]; exact hl.1.symm) X.2.2.2.1 (hts _ (zmT hlk rfl)) (hts _ (zmT zwT_mmin rfl)) (hts _ (zmT zwN_RJ9 rfl)) (hts _ (zmT zwC_mmin rfl)) (by omega) (by omega) r3 r4 d ?_
  rw [show (if Int32.ofInt b < Int32.ofInt a then Int32.ofInt b else Int32.ofInt a) = Int32.ofInt (zmin a b) from by unfold zmin; simp only [zi_lt hg.2 hg.1]; split <;> rfl]
  exact K
theorem zv_mmax {a b : Int} {idx : Nat} (hlk : Cond.methodLink own idx ⟨"java/lang/Math", "max", "(II)I"⟩ ∈ lw_tbl) (hd : 1 ≤ n.2.2) (hW : (S.map fun v => v.category).sum ≤ 8) (d : decode bs pc = .ok (.invokestatic idx, 3)) (k : zV bs own nL ret κ w n (pc + 3) L (iv (zmax a b) :: S) M o E) : zV bs own nL ret κ w n pc L (iv b :: iv a :: S) M (zgd (zr a ∧ zr b) o) E := zv_gd fun hg => by
  intro t ho hE
  have k := k t ho hE
  obtain ⟨p, l, e, R, st, m, args, below, meth, cd, A, Qc, mc, ms⟩ := κ
  intro X H locs ls hH hS hl
  have hts := X.2.2.2.2.1
  obtain ⟨r1, r2, r3, r4⟩ := X.2.2.2.2.2.2.2.2.2.2.2
  have K := k X H locs ls hH hS hl
  refine va_mmax X.1 X.2.1 (by rw [X.2.2.1]; exact hl.1.symm) X.2.2.2.1 (hts _ (zmT hlk rfl)) (hts _ (zmT zwT_mmax rfl)) (hts _ (zmT zwN_RJ9 rfl)) (hts _ (zmT zwC_mmax rfl)) (by omega) (by omega) r3 r4 d ?_
  rw [show (if Int32.ofInt a < Int32.ofInt b then Int32.ofInt b else Int32.ofInt a) = Int32.ofInt (zmax a b) from by unfold zmax; simp only [zi_lt hg.1 hg.2]; split <;> rfl]
  exact K
theorem zv_mabs {a : Int} {idx : Nat} (hlk : Cond.methodLink own idx ⟨"java/lang/Math", "abs", "(I)I"⟩ ∈ lw_tbl) (hd : 1 ≤ n.2.2) (hW : (S.map fun v => v.category).sum ≤ 8) (d : decode bs pc = .ok (.invokestatic idx, 3)) (k : zV bs own nL ret κ w n (pc + 3) L (iv (zabs a) :: S) M o E) : zV bs own nL ret κ w n pc L (iv a :: S) M (zgd (zr a ∧ -2147483647 ≤ a) o) E := zv_gd fun hg => by
  intro t ho hE
  have k := k t ho hE
  obtain ⟨p, l, e, R, st, m, args, below, meth, cd, A, Qc, mc, ms⟩ := κ
  intro X H locs ls hH hS hl
  have hts := X.2.2.2.2.1
  obtain ⟨r1, r2, r3, r4⟩ := X.2.2.2.2.2.2.2.2.2.2.2
  have K := k X H locs ls hH hS hl
  refine va_mabs X.1 X.2.1 (by rw [X.2.2.1]; exact hl.1.symm) X.2.2.2.1 (hts _ (zmT hlk rfl)) (hts _ (zmT zwT_mabs rfl)) (hts _ (zmT zwN_RJ9 rfl)) (hts _ (zmT zwC_mabs rfl)) (by omega) (by omega) r3 r4 d ?_
  rw [show (if 0 ≤ Int32.ofInt a then Int32.ofInt a else 0 - Int32.ofInt a) = Int32.ofInt (zabs a) from by exact zi_absE hg.1]
  exact K
theorem zv_mabsl {a : Int} {idx : Nat} (hlk : Cond.methodLink own idx ⟨"java/lang/Math", "abs", "(J)J"⟩ ∈ lw_tbl) (hd : 1 ≤ n.2.2) (hW : (S.map fun v => v.category).sum ≤ 8) (d : decode bs pc = .ok (.invokestatic idx, 3)) (k : zV bs own nL ret κ w n (pc + 3) L (jv (zabs a) :: S) M o E) : zV bs own nL ret κ w n pc L (jv a :: S) M (zgd (zrl a ∧ -9223372036854775807 ≤ a) o) E := zv_gd fun hg => by
  intro t ho hE
  have k := k t ho hE
  obtain ⟨p, l, e, R, st, m, args, below, meth, cd, A, Qc, mc, ms⟩ := κ
  intro X H locs ls hH hS hl
  have hts := X.2.2.2.2.1
  obtain ⟨r1, r2, r3, r4⟩ := X.2.2.2.2.2.2.2.2.2.2.2
  have K := k X H locs ls hH hS hl
  refine va_mabs_long X.1 X.2.1 (by rw [X.2.2.1]; exact hl.1.symm) X.2.2.2.1 (hts _ (zmT hlk rfl)) (hts _ (zmT zwT_mabsl rfl)) (hts _ (zmT zwN_RJ9 rfl)) (hts _ (zmT zwC_mabsl rfl)) (by omega) (by omega) r3 r4 d ?_
  rw [show (if 0 < Int64.ofInt a then Int64.ofInt a else -Int64.ofInt a) = Int64.ofInt (zabs a) from by unfold zabs; have h0 := zj_lt (a := 0) (by decide) hg.1; rw [show Int64.ofInt 0 = 0 from rfl] at h0; simp only [h0]; split <;> simp [Int64.ofInt_neg]]
  exact K
theorem zv_alen {r : Nat} (d : decode bs pc = .ok (.arraylength, 1)) (hr : ztag w.1 r = 20) (k : zV bs own nL ret κ w n (pc + 1) L (iv ((zlen w.1 r : Nat) : Int) :: S) M o E) : zV bs own nL ret κ w n pc L (rn w r :: S) M o E := by
  intro t ho hE
  have k := k t ho hE
  obtain ⟨p, l, e, R, st, m, args, below, meth, cd, A, Qc, mc, ms⟩ := κ
  intro X H locs ls hH hS hl
  have ha := zok_arr (hH r (by rw [hr]; decide)) hr (by decide)
  have hK := X.2.2.2.2.2.2.2.1.1
  exact W.alen X.1 X.2.1 ha ((hK.2 0 (w.2.2.2 20, .int) rfl).1 _ _) (by rw [arrV_size]; rfl) rfl rfl d (k X H locs ls hH hS hl)
end zQ2
theorem zCn_ofP {l : Launch} {y : MethodName} {bs : ByteArray} {own : String} {nL : Nat} {ret : Option FieldType} {d rc : Nat} {w : zW} {avs : List Value} {M : zM} {o : Option Int} (hy : plainName y.cls = true) (hown : y.cls = own) (hwk : zWk w) (hn : (lg_sl avs).length ≤ nL) (L0 : List (Nat × Value)) (hL : lv_args 0 avs = L0)
    (h : ∀ κ : zC, κ.2.1 = l → zV bs own nL ret κ w (0, 0, d) 0 L0 [] M o (fun v => zRt κ w (0, 0, d) rc (M, v))) : zCn l y bs nL ret d rc w avs M (o.map fun v => (M, v)) := by
  refine zCn_of hy hown hwk hn L0 hL (fun κ hk t ht hE => ?_)
  cases o with
  | none => cases ht
  | some v => cases ht; exact h κ hk v rfl hE
theorem zCn_ofV {l : Launch} {y : MethodName} {bs : ByteArray} {own : String} {nL : Nat} {ret : Option FieldType} {d rc : Nat} {w : zW} {avs : List Value} {M : zM} {o : Option zM} (hy : plainName y.cls = true) (hown : y.cls = own) (hwk : zWk w) (hn : (lg_sl avs).length ≤ nL) (L0 : List (Nat × Value)) (hL : lv_args 0 avs = L0)
    (h : ∀ κ : zC, κ.2.1 = l → zV bs own nL ret κ w (0, 0, d) 0 L0 [] M o (fun m => zRt κ w (0, 0, d) rc (m, 0))) : zCn l y bs nL ret d rc w avs M (o.map fun m => (m, (0 : Int))) := by
  refine zCn_of hy hown hwk hn L0 hL (fun κ hk t ht hE => ?_)
  cases o with
  | none => cases ht
  | some v => cases ht; exact h κ hk v rfl hE
theorem zmd_J0_charAt_5068e : zMd yJ0_charAt_5068e cJ0_charAt_5068e 2 (some .char) 1 := ⟨zwC_J0_charAt_5068e, zwN_RJ0, by decide, by decide, by decide, by decide⟩
theorem zmd_J0_checkIndex_df160 : zMd yJ0_checkIndex_df160 cJ0_checkIndex_df160 2 none 2 := ⟨zwC_J0_checkIndex_df160, zwN_RJ0, by decide, by decide, by decide, by decide⟩
theorem zmd_J0_coder_7d493 : zMd yJ0_coder_7d493 cJ0_coder_7d493 1 (some .byte) 0 := ⟨zwC_J0_coder_7d493, zwN_RJ0, by decide, by decide, by decide, by decide⟩
theorem zmd_J0_isLatin1_aae02 : zMd yJ0_isLatin1_aae02 cJ0_isLatin1_aae02 1 (some .boolean) 0 := ⟨zwC_J0_isLatin1_aae02, zwN_RJ0, by decide, by decide, by decide, by decide⟩
theorem zmd_J0_length_8abf5 : zMd yJ0_length_8abf5 cJ0_length_8abf5 1 (some .int) 0 := ⟨zwC_J0_length_8abf5, zwN_RJ0, by decide, by decide, by decide, by decide⟩
theorem zmd_J13_compare_74951 : zMd yJ13_compare_74951 cJ13_compare_74951 4 (some .int) 2 := ⟨zwC_J13_compare_74951, zwN_RJ13, by decide, by decide, by decide, by decide⟩
theorem zmd_J1_charAt_3b067 : zMd yJ1_charAt_3b067 cJ1_charAt_3b067 2 (some .char) 2 := ⟨zwC_J1_charAt_3b067, zwN_RJ1, by decide, by decide, by decide, by decide⟩
theorem zmd_J2_charAt_3b067 : zMd yJ2_charAt_3b067 cJ2_charAt_3b067 2 (some .char) 2 := ⟨zwC_J2_charAt_3b067, zwN_RJ2, by decide, by decide, by decide, by decide⟩
theorem zmd_J2_checkIndex_2214a : zMd yJ2_checkIndex_2214a cJ2_checkIndex_2214a 2 none 2 := ⟨zwC_J2_checkIndex_2214a, zwN_RJ2, by decide, by decide, by decide, by decide⟩
theorem zmd_J2_getChar_3b067 : zMd yJ2_getChar_3b067 cJ2_getChar_3b067 2 (some .char) 2 := ⟨zwC_J2_getChar_3b067, zwN_RJ2, by decide, by decide, by decide, by decide⟩
theorem zmd_J2_length_9d52b : zMd yJ2_length_9d52b cJ2_length_9d52b 1 (some .int) 1 := ⟨zwC_J2_length_9d52b, zwN_RJ2, by decide, by decide, by decide, by decide⟩
theorem zmd_J3_checkIndex_8e157 : zMd yJ3_checkIndex_8e157 cJ3_checkIndex_8e157 3 (some .int) 3 := ⟨zwC_J3_checkIndex_8e157, zwN_RJ3, by decide, by decide, by decide, by decide⟩
theorem zmd_J7_fill_53178 : zMd yJ7_fill_53178 cJ7_fill_53178 4 none 2 := ⟨zwC_J7_fill_53178, zwN_RJ7, by decide, by decide, by decide, by decide⟩
theorem zmd_J9_abs_067f4 : zMd yJ9_abs_067f4 cJ9_abs_067f4 2 (some .long) 1 := ⟨zwC_J9_abs_067f4, zwN_RJ9, by decide, by decide, by decide, by decide⟩
theorem zmd_J9_abs_0f7a4 : zMd yJ9_abs_0f7a4 cJ9_abs_0f7a4 1 (some .int) 1 := ⟨zwC_J9_abs_0f7a4, zwN_RJ9, by decide, by decide, by decide, by decide⟩
theorem zmd_J9_max_7cf53 : zMd yJ9_max_7cf53 cJ9_max_7cf53 2 (some .int) 2 := ⟨zwC_J9_max_7cf53, zwN_RJ9, by decide, by decide, by decide, by decide⟩
theorem zmd_J9_min_7cf53 : zMd yJ9_min_7cf53 cJ9_min_7cf53 2 (some .int) 2 := ⟨zwC_J9_min_7cf53, zwN_RJ9, by decide, by decide, by decide, by decide⟩
theorem zmd_X0_next : zMd yX0_next cX0_next 2 (some .int) 1 := ⟨zwC_X0_next, zwN_RX0, by decide, by decide, by decide, by decide⟩
theorem zmd_X10_ahead : zMd yX10_ahead cX10_ahead 3 (some .int) 2 := ⟨zwC_X10_ahead, zwN_RX10, by decide, by decide, by decide, by decide⟩
theorem zmd_X10_alone : zMd yX10_alone cX10_alone 10 (some .int) 3 := ⟨zwC_X10_alone, zwN_RX10, by decide, by decide, by decide, by decide⟩
theorem zmd_X10_areAges : zMd yX10_areAges cX10_areAges 2 (some .boolean) 2 := ⟨zwC_X10_areAges, zwN_RX10, by decide, by decide, by decide, by decide⟩
theorem zmd_X10_asked : zMd yX10_asked cX10_asked 5 (some .int) 3 := ⟨zwC_X10_asked, zwN_RX10, by decide, by decide, by decide, by decide⟩
theorem zmd_X10_beside : zMd yX10_beside cX10_beside 3 (some .int) 2 := ⟨zwC_X10_beside, zwN_RX10, by decide, by decide, by decide, by decide⟩
theorem zmd_X10_bucket : zMd yX10_bucket cX10_bucket 3 (some .int) 2 := ⟨zwC_X10_bucket, zwN_RX10, by decide, by decide, by decide, by decide⟩
theorem zmd_X10_carried : zMd yX10_carried cX10_carried 11 (some .long) 2 := ⟨zwC_X10_carried, zwN_RX10, by decide, by decide, by decide, by decide⟩
theorem zmd_X10_cell : zMd yX10_cell cX10_cell 3 (some .int) 2 := ⟨zwC_X10_cell, zwN_RX10, by decide, by decide, by decide, by decide⟩
theorem zmd_X10_count : zMd yX10_count cX10_count 2 (some .int) 1 := ⟨zwC_X10_count, zwN_RX10, by decide, by decide, by decide, by decide⟩
theorem zmd_X10_doubt : zMd yX10_doubt cX10_doubt 11 (some .int) 1 := ⟨zwC_X10_doubt, zwN_RX10, by decide, by decide, by decide, by decide⟩
theorem zmd_X10_dry : zMd yX10_dry cX10_dry 3 (some .int) 2 := ⟨zwC_X10_dry, zwN_RX10, by decide, by decide, by decide, by decide⟩
theorem zmd_X10_ends : zMd yX10_ends cX10_ends 6 (some .int) 2 := ⟨zwC_X10_ends, zwN_RX10, by decide, by decide, by decide, by decide⟩
theorem zmd_X10_fault : zMd yX10_fault cX10_fault 1 (some .int) 0 := ⟨zwC_X10_fault, zwN_RX10, by decide, by decide, by decide, by decide⟩
theorem zmd_X10_feed : zMd yX10_feed cX10_feed 6 (some .int) 5 := ⟨zwC_X10_feed, zwN_RX10, by decide, by decide, by decide, by decide⟩
theorem zmd_X10_find : zMd yX10_find cX10_find 6 (some .int) 4 := ⟨zwC_X10_find, zwN_RX10, by decide, by decide, by decide, by decide⟩
theorem zmd_X10_fits : zMd yX10_fits cX10_fits 4 (some .int) 1 := ⟨zwC_X10_fits, zwN_RX10, by decide, by decide, by decide, by decide⟩
theorem zmd_X10_ford : zMd yX10_ford cX10_ford 7 (some .int) 3 := ⟨zwC_X10_ford, zwN_RX10, by decide, by decide, by decide, by decide⟩
theorem zmd_X10_forgetGround : zMd yX10_forgetGround cX10_forgetGround 1 none 0 := ⟨zwC_X10_forgetGround, zwN_RX10, by decide, by decide, by decide, by decide⟩
theorem zmd_X10_found : zMd yX10_found cX10_found 3 (some .int) 2 := ⟨zwC_X10_found, zwN_RX10, by decide, by decide, by decide, by decide⟩
theorem zmd_X10_gone : zMd yX10_gone cX10_gone 6 (some .int) 4 := ⟨zwC_X10_gone, zwN_RX10, by decide, by decide, by decide, by decide⟩
theorem zmd_X10_groundOf : zMd yX10_groundOf cX10_groundOf 3 (some .int) 2 := ⟨zwC_X10_groundOf, zwN_RX10, by decide, by decide, by decide, by decide⟩
theorem zmd_X10_height : zMd yX10_height cX10_height 9 (some .int) 3 := ⟨zwC_X10_height, zwN_RX10, by decide, by decide, by decide, by decide⟩
theorem zmd_X10_held : zMd yX10_held cX10_held 8 (some .int) 3 := ⟨zwC_X10_held, zwN_RX10, by decide, by decide, by decide, by decide⟩
theorem zmd_X10_image : zMd yX10_image cX10_image 3 (some .int) 0 := ⟨zwC_X10_image, zwN_RX10, by decide, by decide, by decide, by decide⟩
theorem zmd_X10_isAge : zMd yX10_isAge cX10_isAge 1 (some .boolean) 1 := ⟨zwC_X10_isAge, zwN_RX10, by decide, by decide, by decide, by decide⟩
theorem zmd_X10_isCell : zMd yX10_isCell cX10_isCell 1 (some .boolean) 1 := ⟨zwC_X10_isCell, zwN_RX10, by decide, by decide, by decide, by decide⟩
theorem zmd_X10_isHeight : zMd yX10_isHeight cX10_isHeight 1 (some .boolean) 1 := ⟨zwC_X10_isHeight, zwN_RX10, by decide, by decide, by decide, by decide⟩
theorem zmd_X10_isKind : zMd yX10_isKind cX10_isKind 1 (some .boolean) 1 := ⟨zwC_X10_isKind, zwN_RX10, by decide, by decide, by decide, by decide⟩
theorem zmd_X10_isPart : zMd yX10_isPart cX10_isPart 1 (some .boolean) 1 := ⟨zwC_X10_isPart, zwN_RX10, by decide, by decide, by decide, by decide⟩
theorem zmd_X10_isWave : zMd yX10_isWave cX10_isWave 2 (some .boolean) 2 := ⟨zwC_X10_isWave, zwN_RX10, by decide, by decide, by decide, by decide⟩
theorem zmd_X10_islandOf : zMd yX10_islandOf cX10_islandOf 4 (some .int) 2 := ⟨zwC_X10_islandOf, zwN_RX10, by decide, by decide, by decide, by decide⟩
theorem zmd_X10_law : zMd yX10_law cX10_law 3 (some .int) 1 := ⟨zwC_X10_law, zwN_RX10, by decide, by decide, by decide, by decide⟩
theorem zmd_X10_layOut : zMd yX10_layOut cX10_layOut 3 none 1 := ⟨zwC_X10_layOut, zwN_RX10, by decide, by decide, by decide, by decide⟩
theorem zmd_X10_lean : zMd yX10_lean cX10_lean 3 (some .int) 2 := ⟨zwC_X10_lean, zwN_RX10, by decide, by decide, by decide, by decide⟩
theorem zmd_X10_learnt : zMd yX10_learnt cX10_learnt 3 (some .int) 2 := ⟨zwC_X10_learnt, zwN_RX10, by decide, by decide, by decide, by decide⟩
theorem zmd_X10_left : zMd yX10_left cX10_left 4 (some .long) 3 := ⟨zwC_X10_left, zwN_RX10, by decide, by decide, by decide, by decide⟩
theorem zmd_X10_letter : zMd yX10_letter cX10_letter 6 (some .int) 4 := ⟨zwC_X10_letter, zwN_RX10, by decide, by decide, by decide, by decide⟩
theorem zmd_X10_letterFits : zMd yX10_letterFits cX10_letterFits 6 (some .boolean) 1 := ⟨zwC_X10_letterFits, zwN_RX10, by decide, by decide, by decide, by decide⟩
theorem zmd_X10_levels : zMd yX10_levels cX10_levels 7 (some .int) 2 := ⟨zwC_X10_levels, zwN_RX10, by decide, by decide, by decide, by decide⟩
theorem zmd_X10_lived : zMd yX10_lived cX10_lived 7 (some .long) 4 := ⟨zwC_X10_lived, zwN_RX10, by decide, by decide, by decide, by decide⟩
theorem zmd_X10_mud : zMd yX10_mud cX10_mud 3 (some .int) 2 := ⟨zwC_X10_mud, zwN_RX10, by decide, by decide, by decide, by decide⟩
theorem zmd_X10_offTogether : zMd yX10_offTogether cX10_offTogether 4 (some .int) 2 := ⟨zwC_X10_offTogether, zwN_RX10, by decide, by decide, by decide, by decide⟩
theorem zmd_X10_place : zMd yX10_place cX10_place 3 (some .int) 1 := ⟨zwC_X10_place, zwN_RX10, by decide, by decide, by decide, by decide⟩
theorem zmd_X10_quarterOf : zMd yX10_quarterOf cX10_quarterOf 1 (some .int) 1 := ⟨zwC_X10_quarterOf, zwN_RX10, by decide, by decide, by decide, by decide⟩
theorem zmd_X10_reckonLeft : zMd yX10_reckonLeft cX10_reckonLeft 9 none 2 := ⟨zwC_X10_reckonLeft, zwN_RX10, by decide, by decide, by decide, by decide⟩
theorem zmd_X10_refuse : zMd yX10_refuse cX10_refuse 2 (some .int) 1 := ⟨zwC_X10_refuse, zwN_RX10, by decide, by decide, by decide, by decide⟩
theorem zmd_X10_rest : zMd yX10_rest cX10_rest 10 (some .int) 4 := ⟨zwC_X10_rest, zwN_RX10, by decide, by decide, by decide, by decide⟩
theorem zmd_X10_restore : zMd yX10_restore cX10_restore 2 (some .boolean) 1 := ⟨zwC_X10_restore, zwN_RX10, by decide, by decide, by decide, by decide⟩
theorem zmd_X10_right : zMd yX10_right cX10_right 14 (some .long) 3 := ⟨zwC_X10_right, zwN_RX10, by decide, by decide, by decide, by decide⟩
theorem zmd_X10_say : zMd yX10_say cX10_say 5 (some .int) 2 := ⟨zwC_X10_say, zwN_RX10, by decide, by decide, by decide, by decide⟩
theorem zmd_X10_sea : zMd yX10_sea cX10_sea 3 (some .int) 2 := ⟨zwC_X10_sea, zwN_RX10, by decide, by decide, by decide, by decide⟩
theorem zmd_X10_settle : zMd yX10_settle cX10_settle 1 none 0 := ⟨zwC_X10_settle, zwN_RX10, by decide, by decide, by decide, by decide⟩
theorem zmd_X10_ship : zMd yX10_ship cX10_ship 5 (some .int) 3 := ⟨zwC_X10_ship, zwN_RX10, by decide, by decide, by decide, by decide⟩
theorem zmd_X10_shore : zMd yX10_shore cX10_shore 7 (some .int) 1 := ⟨zwC_X10_shore, zwN_RX10, by decide, by decide, by decide, by decide⟩
theorem zmd_X10_sound : zMd yX10_sound cX10_sound 4 (some .boolean) 3 := ⟨zwC_X10_sound, zwN_RX10, by decide, by decide, by decide, by decide⟩
theorem zmd_X10_spanKnown : zMd yX10_spanKnown cX10_spanKnown 3 (some .int) 1 := ⟨zwC_X10_spanKnown, zwN_RX10, by decide, by decide, by decide, by decide⟩
theorem zmd_X10_sumFish : zMd yX10_sumFish cX10_sumFish 6 (some .int) 3 := ⟨zwC_X10_sumFish, zwN_RX10, by decide, by decide, by decide, by decide⟩
theorem zmd_X10_sumLives : zMd yX10_sumLives cX10_sumLives 6 (some .long) 2 := ⟨zwC_X10_sumLives, zwN_RX10, by decide, by decide, by decide, by decide⟩
theorem zmd_X10_sumLivesIn : zMd yX10_sumLivesIn cX10_sumLivesIn 7 (some .long) 3 := ⟨zwC_X10_sumLivesIn, zwN_RX10, by decide, by decide, by decide, by decide⟩
theorem zmd_X10_surestFind : zMd yX10_surestFind cX10_surestFind 5 (some .int) 2 := ⟨zwC_X10_surestFind, zwN_RX10, by decide, by decide, by decide, by decide⟩
theorem zmd_X10_tried : zMd yX10_tried cX10_tried 5 (some .int) 1 := ⟨zwC_X10_tried, zwN_RX10, by decide, by decide, by decide, by decide⟩
theorem zmd_X10_unlike : zMd yX10_unlike cX10_unlike 8 (some .int) 1 := ⟨zwC_X10_unlike, zwN_RX10, by decide, by decide, by decide, by decide⟩
theorem zmd_X10_viewAt : zMd yX10_viewAt cX10_viewAt 2 (some (.object "DrownedLand$View")) 1 := ⟨zwC_X10_viewAt, zwN_RX10, by decide, by decide, by decide, by decide⟩
theorem zmd_X10_world : zMd yX10_world cX10_world 18 (some .int) 5 := ⟨zwC_X10_world, zwN_RX10, by decide, by decide, by decide, by decide⟩
theorem zmd_X11_ahead : zMd yX11_ahead cX11_ahead 4 (some .int) 2 := ⟨zwC_X11_ahead, zwN_RX11, by decide, by decide, by decide, by decide⟩
theorem zmd_X11_alone : zMd yX11_alone cX11_alone 8 (some .int) 3 := ⟨zwC_X11_alone, zwN_RX11, by decide, by decide, by decide, by decide⟩
theorem zmd_X11_areAges : zMd yX11_areAges cX11_areAges 2 (some .boolean) 2 := ⟨zwC_X11_areAges, zwN_RX11, by decide, by decide, by decide, by decide⟩
theorem zmd_X11_asked : zMd yX11_asked cX11_asked 3 none 2 := ⟨zwC_X11_asked, zwN_RX11, by decide, by decide, by decide, by decide⟩
theorem zmd_X11_asked_ : zMd yX11_asked_ cX11_asked_ 4 (some .int) 3 := ⟨zwC_X11_asked_, zwN_RX11, by decide, by decide, by decide, by decide⟩
theorem zmd_X11_beside : zMd yX11_beside cX11_beside 2 (some .int) 2 := ⟨zwC_X11_beside, zwN_RX11, by decide, by decide, by decide, by decide⟩
theorem zmd_X11_bucket : zMd yX11_bucket cX11_bucket 3 (some .int) 2 := ⟨zwC_X11_bucket, zwN_RX11, by decide, by decide, by decide, by decide⟩
theorem zmd_X11_by : zMd yX11_by cX11_by 4 (some .int) 3 := ⟨zwC_X11_by, zwN_RX11, by decide, by decide, by decide, by decide⟩
theorem zmd_X11_carried : zMd yX11_carried cX11_carried 9 (some .long) 2 := ⟨zwC_X11_carried, zwN_RX11, by decide, by decide, by decide, by decide⟩
theorem zmd_X11_catches : zMd yX11_catches cX11_catches 1 (some .int) 0 := ⟨zwC_X11_catches, zwN_RX11, by decide, by decide, by decide, by decide⟩
theorem zmd_X11_cell : zMd yX11_cell cX11_cell 3 (some .int) 2 := ⟨zwC_X11_cell, zwN_RX11, by decide, by decide, by decide, by decide⟩
theorem zmd_X11_closes : zMd yX11_closes cX11_closes 2 (some .boolean) 0 := ⟨zwC_X11_closes, zwN_RX11, by decide, by decide, by decide, by decide⟩
theorem zmd_X11_copies : zMd yX11_copies cX11_copies 4 none 2 := ⟨zwC_X11_copies, zwN_RX11, by decide, by decide, by decide, by decide⟩
theorem zmd_X11_count : zMd yX11_count cX11_count 4 (some .int) 1 := ⟨zwC_X11_count, zwN_RX11, by decide, by decide, by decide, by decide⟩
theorem zmd_X11_distance : zMd yX11_distance cX11_distance 2 (some .int) 2 := ⟨zwC_X11_distance, zwN_RX11, by decide, by decide, by decide, by decide⟩
theorem zmd_X11_divisor : zMd yX11_divisor cX11_divisor 10 (some .long) 2 := ⟨zwC_X11_divisor, zwN_RX11, by decide, by decide, by decide, by decide⟩
theorem zmd_X11_doesFit : zMd yX11_doesFit cX11_doesFit 3 (some .boolean) 1 := ⟨zwC_X11_doesFit, zwN_RX11, by decide, by decide, by decide, by decide⟩
theorem zmd_X11_doubt : zMd yX11_doubt cX11_doubt 16 (some .int) 1 := ⟨zwC_X11_doubt, zwN_RX11, by decide, by decide, by decide, by decide⟩
theorem zmd_X11_draw : zMd yX11_draw cX11_draw 2 (some .int) 1 := ⟨zwC_X11_draw, zwN_RX11, by decide, by decide, by decide, by decide⟩
theorem zmd_X11_dry : zMd yX11_dry cX11_dry 3 (some .int) 2 := ⟨zwC_X11_dry, zwN_RX11, by decide, by decide, by decide, by decide⟩
theorem zmd_X11_endOf : zMd yX11_endOf cX11_endOf 3 (some .int) 1 := ⟨zwC_X11_endOf, zwN_RX11, by decide, by decide, by decide, by decide⟩
theorem zmd_X11_ends : zMd yX11_ends cX11_ends 6 (some .int) 2 := ⟨zwC_X11_ends, zwN_RX11, by decide, by decide, by decide, by decide⟩
theorem zmd_X11_errs : zMd yX11_errs cX11_errs 1 none 0 := ⟨zwC_X11_errs, zwN_RX11, by decide, by decide, by decide, by decide⟩
theorem zmd_X11_fault : zMd yX11_fault cX11_fault 1 (some .int) 0 := ⟨zwC_X11_fault, zwN_RX11, by decide, by decide, by decide, by decide⟩
theorem zmd_X11_feed : zMd yX11_feed cX11_feed 8 (some .int) 5 := ⟨zwC_X11_feed, zwN_RX11, by decide, by decide, by decide, by decide⟩
theorem zmd_X11_find : zMd yX11_find cX11_find 6 (some .int) 4 := ⟨zwC_X11_find, zwN_RX11, by decide, by decide, by decide, by decide⟩
theorem zmd_X11_findGround : zMd yX11_findGround cX11_findGround 5 none 0 := ⟨zwC_X11_findGround, zwN_RX11, by decide, by decide, by decide, by decide⟩
theorem zmd_X11_findLand : zMd yX11_findLand cX11_findLand 6 none 1 := ⟨zwC_X11_findLand, zwN_RX11, by decide, by decide, by decide, by decide⟩
theorem zmd_X11_findLeft : zMd yX11_findLeft cX11_findLeft 2 none 1 := ⟨zwC_X11_findLeft, zwN_RX11, by decide, by decide, by decide, by decide⟩
theorem zmd_X11_findLive : zMd yX11_findLive cX11_findLive 7 none 3 := ⟨zwC_X11_findLive, zwN_RX11, by decide, by decide, by decide, by decide⟩
theorem zmd_X11_findLives : zMd yX11_findLives cX11_findLives 3 none 1 := ⟨zwC_X11_findLives, zwN_RX11, by decide, by decide, by decide, by decide⟩
theorem zmd_X11_findSea : zMd yX11_findSea cX11_findSea 4 none 1 := ⟨zwC_X11_findSea, zwN_RX11, by decide, by decide, by decide, by decide⟩
theorem zmd_X11_finds : zMd yX11_finds cX11_finds 2 none 1 := ⟨zwC_X11_finds, zwN_RX11, by decide, by decide, by decide, by decide⟩
theorem zmd_X11_first : zMd yX11_first cX11_first 4 (some .int) 2 := ⟨zwC_X11_first, zwN_RX11, by decide, by decide, by decide, by decide⟩
theorem zmd_X11_fits : zMd yX11_fits cX11_fits 5 (some .int) 1 := ⟨zwC_X11_fits, zwN_RX11, by decide, by decide, by decide, by decide⟩
theorem zmd_X11_ford : zMd yX11_ford cX11_ford 7 (some .int) 3 := ⟨zwC_X11_ford, zwN_RX11, by decide, by decide, by decide, by decide⟩
theorem zmd_X11_found : zMd yX11_found cX11_found 3 (some .int) 2 := ⟨zwC_X11_found, zwN_RX11, by decide, by decide, by decide, by decide⟩
theorem zmd_X11_goesOn : zMd yX11_goesOn cX11_goesOn 4 (some .boolean) 0 := ⟨zwC_X11_goesOn, zwN_RX11, by decide, by decide, by decide, by decide⟩
theorem zmd_X11_gone : zMd yX11_gone cX11_gone 5 (some .int) 4 := ⟨zwC_X11_gone, zwN_RX11, by decide, by decide, by decide, by decide⟩
theorem zmd_X11_height : zMd yX11_height cX11_height 10 (some .int) 3 := ⟨zwC_X11_height, zwN_RX11, by decide, by decide, by decide, by decide⟩
theorem zmd_X11_heightOf : zMd yX11_heightOf cX11_heightOf 2 (some .int) 1 := ⟨zwC_X11_heightOf, zwN_RX11, by decide, by decide, by decide, by decide⟩
theorem zmd_X11_held : zMd yX11_held cX11_held 6 (some .int) 3 := ⟨zwC_X11_held, zwN_RX11, by decide, by decide, by decide, by decide⟩
theorem zmd_X11_heldTo99 : zMd yX11_heldTo99 cX11_heldTo99 1 (some .int) 1 := ⟨zwC_X11_heldTo99, zwN_RX11, by decide, by decide, by decide, by decide⟩
theorem zmd_X11_here : zMd yX11_here cX11_here 1 (some .int) 0 := ⟨zwC_X11_here, zwN_RX11, by decide, by decide, by decide, by decide⟩
theorem zmd_X11_highOf : zMd yX11_highOf cX11_highOf 2 (some .int) 1 := ⟨zwC_X11_highOf, zwN_RX11, by decide, by decide, by decide, by decide⟩
theorem zmd_X11_holds : zMd yX11_holds cX11_holds 5 (some .boolean) 1 := ⟨zwC_X11_holds, zwN_RX11, by decide, by decide, by decide, by decide⟩
theorem zmd_X11_howHere : zMd yX11_howHere cX11_howHere 2 (some .int) 0 := ⟨zwC_X11_howHere, zwN_RX11, by decide, by decide, by decide, by decide⟩
theorem zmd_X11_image : zMd yX11_image cX11_image 1 (some .int) 0 := ⟨zwC_X11_image, zwN_RX11, by decide, by decide, by decide, by decide⟩
theorem zmd_X11_is : zMd yX11_is cX11_is 3 (some .boolean) 1 := ⟨zwC_X11_is, zwN_RX11, by decide, by decide, by decide, by decide⟩
theorem zmd_X11_isAge : zMd yX11_isAge cX11_isAge 1 (some .boolean) 1 := ⟨zwC_X11_isAge, zwN_RX11, by decide, by decide, by decide, by decide⟩
theorem zmd_X11_isBank : zMd yX11_isBank cX11_isBank 5 (some .boolean) 3 := ⟨zwC_X11_isBank, zwN_RX11, by decide, by decide, by decide, by decide⟩
theorem zmd_X11_isCell : zMd yX11_isCell cX11_isCell 1 (some .boolean) 1 := ⟨zwC_X11_isCell, zwN_RX11, by decide, by decide, by decide, by decide⟩
theorem zmd_X11_isFind : zMd yX11_isFind cX11_isFind 2 (some .boolean) 1 := ⟨zwC_X11_isFind, zwN_RX11, by decide, by decide, by decide, by decide⟩
theorem zmd_X11_isGone : zMd yX11_isGone cX11_isGone 4 (some .boolean) 3 := ⟨zwC_X11_isGone, zwN_RX11, by decide, by decide, by decide, by decide⟩
theorem zmd_X11_isNot : zMd yX11_isNot cX11_isNot 1 (some .boolean) 0 := ⟨zwC_X11_isNot, zwN_RX11, by decide, by decide, by decide, by decide⟩
theorem zmd_X11_isNotLess : zMd yX11_isNotLess cX11_isNotLess 17 (some .boolean) 4 := ⟨zwC_X11_isNotLess, zwN_RX11, by decide, by decide, by decide, by decide⟩
theorem zmd_X11_isPlace : zMd yX11_isPlace cX11_isPlace 3 (some .boolean) 1 := ⟨zwC_X11_isPlace, zwN_RX11, by decide, by decide, by decide, by decide⟩
theorem zmd_X11_isSure : zMd yX11_isSure cX11_isSure 6 (some .int) 1 := ⟨zwC_X11_isSure, zwN_RX11, by decide, by decide, by decide, by decide⟩
theorem zmd_X11_isWave : zMd yX11_isWave cX11_isWave 3 (some .boolean) 3 := ⟨zwC_X11_isWave, zwN_RX11, by decide, by decide, by decide, by decide⟩
theorem zmd_X11_islandOf : zMd yX11_islandOf cX11_islandOf 2 (some .int) 1 := ⟨zwC_X11_islandOf, zwN_RX11, by decide, by decide, by decide, by decide⟩
theorem zmd_X11_kindOf : zMd yX11_kindOf cX11_kindOf 2 (some .int) 1 := ⟨zwC_X11_kindOf, zwN_RX11, by decide, by decide, by decide, by decide⟩
theorem zmd_X11_last : zMd yX11_last cX11_last 5 (some .int) 2 := ⟨zwC_X11_last, zwN_RX11, by decide, by decide, by decide, by decide⟩
theorem zmd_X11_law : zMd yX11_law cX11_law 3 (some .int) 1 := ⟨zwC_X11_law, zwN_RX11, by decide, by decide, by decide, by decide⟩
theorem zmd_X11_lean : zMd yX11_lean cX11_lean 3 (some .int) 2 := ⟨zwC_X11_lean, zwN_RX11, by decide, by decide, by decide, by decide⟩
theorem zmd_X11_leanOf : zMd yX11_leanOf cX11_leanOf 5 (some .int) 2 := ⟨zwC_X11_leanOf, zwN_RX11, by decide, by decide, by decide, by decide⟩
theorem zmd_X11_learn : zMd yX11_learn cX11_learn 4 none 2 := ⟨zwC_X11_learn, zwN_RX11, by decide, by decide, by decide, by decide⟩
theorem zmd_X11_learnt : zMd yX11_learnt cX11_learnt 3 (some .int) 2 := ⟨zwC_X11_learnt, zwN_RX11, by decide, by decide, by decide, by decide⟩
theorem zmd_X11_leaves : zMd yX11_leaves cX11_leaves 5 (some .long) 1 := ⟨zwC_X11_leaves, zwN_RX11, by decide, by decide, by decide, by decide⟩
theorem zmd_X11_left : zMd yX11_left cX11_left 4 (some .long) 3 := ⟨zwC_X11_left, zwN_RX11, by decide, by decide, by decide, by decide⟩
theorem zmd_X11_letter : zMd yX11_letter cX11_letter 6 (some .int) 4 := ⟨zwC_X11_letter, zwN_RX11, by decide, by decide, by decide, by decide⟩
theorem zmd_X11_levels : zMd yX11_levels cX11_levels 7 (some .int) 2 := ⟨zwC_X11_levels, zwN_RX11, by decide, by decide, by decide, by decide⟩
theorem zmd_X11_lived : zMd yX11_lived cX11_lived 5 (some .long) 4 := ⟨zwC_X11_lived, zwN_RX11, by decide, by decide, by decide, by decide⟩
theorem zmd_X11_lowOf : zMd yX11_lowOf cX11_lowOf 2 (some .int) 1 := ⟨zwC_X11_lowOf, zwN_RX11, by decide, by decide, by decide, by decide⟩
theorem zmd_X11_lowest : zMd yX11_lowest cX11_lowest 7 (some .long) 3 := ⟨zwC_X11_lowest, zwN_RX11, by decide, by decide, by decide, by decide⟩
theorem zmd_X11_mud : zMd yX11_mud cX11_mud 3 (some .int) 2 := ⟨zwC_X11_mud, zwN_RX11, by decide, by decide, by decide, by decide⟩
theorem zmd_X11_mudMany : zMd yX11_mudMany cX11_mudMany 3 (some .int) 0 := ⟨zwC_X11_mudMany, zwN_RX11, by decide, by decide, by decide, by decide⟩
theorem zmd_X11_next : zMd yX11_next cX11_next 2 none 0 := ⟨zwC_X11_next, zwN_RX11, by decide, by decide, by decide, by decide⟩
theorem zmd_X11_numeral : zMd yX11_numeral cX11_numeral 4 (some .int) 2 := ⟨zwC_X11_numeral, zwN_RX11, by decide, by decide, by decide, by decide⟩
theorem zmd_X11_place : zMd yX11_place cX11_place 2 (some .int) 1 := ⟨zwC_X11_place, zwN_RX11, by decide, by decide, by decide, by decide⟩
theorem zmd_X11_power : zMd yX11_power cX11_power 6 (some .long) 2 := ⟨zwC_X11_power, zwN_RX11, by decide, by decide, by decide, by decide⟩
theorem zmd_X11_quarterOf : zMd yX11_quarterOf cX11_quarterOf 1 (some .int) 1 := ⟨zwC_X11_quarterOf, zwN_RX11, by decide, by decide, by decide, by decide⟩
theorem zmd_X11_rankOf : zMd yX11_rankOf cX11_rankOf 4 (some .int) 1 := ⟨zwC_X11_rankOf, zwN_RX11, by decide, by decide, by decide, by decide⟩
theorem zmd_X11_readCondition : zMd yX11_readCondition cX11_readCondition 3 none 0 := ⟨zwC_X11_readCondition, zwN_RX11, by decide, by decide, by decide, by decide⟩
theorem zmd_X11_readRule : zMd yX11_readRule cX11_readRule 3 none 0 := ⟨zwC_X11_readRule, zwN_RX11, by decide, by decide, by decide, by decide⟩
theorem zmd_X11_readSea : zMd yX11_readSea cX11_readSea 2 none 1 := ⟨zwC_X11_readSea, zwN_RX11, by decide, by decide, by decide, by decide⟩
theorem zmd_X11_readTest : zMd yX11_readTest cX11_readTest 4 none 0 := ⟨zwC_X11_readTest, zwN_RX11, by decide, by decide, by decide, by decide⟩
theorem zmd_X11_refuses : zMd yX11_refuses cX11_refuses 2 (some .int) 1 := ⟨zwC_X11_refuses, zwN_RX11, by decide, by decide, by decide, by decide⟩
theorem zmd_X11_rest : zMd yX11_rest cX11_rest 9 (some .int) 4 := ⟨zwC_X11_rest, zwN_RX11, by decide, by decide, by decide, by decide⟩
theorem zmd_X11_restore : zMd yX11_restore cX11_restore 2 (some .boolean) 1 := ⟨zwC_X11_restore, zwN_RX11, by decide, by decide, by decide, by decide⟩
theorem zmd_X11_right : zMd yX11_right cX11_right 10 (some .long) 3 := ⟨zwC_X11_right, zwN_RX11, by decide, by decide, by decide, by decide⟩
theorem zmd_X11_ruleHere : zMd yX11_ruleHere cX11_ruleHere 1 (some .int) 0 := ⟨zwC_X11_ruleHere, zwN_RX11, by decide, by decide, by decide, by decide⟩
theorem zmd_X11_say : zMd yX11_say cX11_say 6 (some .int) 2 := ⟨zwC_X11_say, zwN_RX11, by decide, by decide, by decide, by decide⟩
theorem zmd_X11_sea : zMd yX11_sea cX11_sea 3 (some .int) 2 := ⟨zwC_X11_sea, zwN_RX11, by decide, by decide, by decide, by decide⟩
theorem zmd_X11_ship : zMd yX11_ship cX11_ship 10 (some .int) 3 := ⟨zwC_X11_ship, zwN_RX11, by decide, by decide, by decide, by decide⟩
theorem zmd_X11_shore : zMd yX11_shore cX11_shore 5 (some .int) 1 := ⟨zwC_X11_shore, zwN_RX11, by decide, by decide, by decide, by decide⟩
theorem zmd_X11_sound : zMd yX11_sound cX11_sound 4 (some .boolean) 3 := ⟨zwC_X11_sound, zwN_RX11, by decide, by decide, by decide, by decide⟩
theorem zmd_X11_spread : zMd yX11_spread cX11_spread 7 (some .int) 2 := ⟨zwC_X11_spread, zwN_RX11, by decide, by decide, by decide, by decide⟩
theorem zmd_X11_step : zMd yX11_step cX11_step 5 none 4 := ⟨zwC_X11_step, zwN_RX11, by decide, by decide, by decide, by decide⟩
theorem zmd_X11_tried : zMd yX11_tried cX11_tried 4 (some .int) 1 := ⟨zwC_X11_tried, zwN_RX11, by decide, by decide, by decide, by decide⟩
theorem zmd_X11_underOf : zMd yX11_underOf cX11_underOf 4 (some .int) 2 := ⟨zwC_X11_underOf, zwN_RX11, by decide, by decide, by decide, by decide⟩
theorem zmd_X11_unlike : zMd yX11_unlike cX11_unlike 5 (some .int) 1 := ⟨zwC_X11_unlike, zwN_RX11, by decide, by decide, by decide, by decide⟩
theorem zmd_X11_unsees : zMd yX11_unsees cX11_unsees 2 none 0 := ⟨zwC_X11_unsees, zwN_RX11, by decide, by decide, by decide, by decide⟩
theorem zmd_X11_within : zMd yX11_within cX11_within 3 (some .boolean) 3 := ⟨zwC_X11_within, zwN_RX11, by decide, by decide, by decide, by decide⟩
theorem zmd_X11_wordHere : zMd yX11_wordHere cX11_wordHere 1 (some .int) 0 := ⟨zwC_X11_wordHere, zwN_RX11, by decide, by decide, by decide, by decide⟩
theorem zmd_X11_world : zMd yX11_world cX11_world 14 (some .int) 5 := ⟨zwC_X11_world, zwN_RX11, by decide, by decide, by decide, by decide⟩
theorem zmd_X1_countParts : zMd yX1_countParts cX1_countParts 3 (some .int) 0 := ⟨zwC_X1_countParts, zwN_RX1, by decide, by decide, by decide, by decide⟩
theorem zmd_X1_spread : zMd yX1_spread cX1_spread 6 (some .int) 1 := ⟨zwC_X1_spread, zwN_RX1, by decide, by decide, by decide, by decide⟩
theorem zmd_X2_countHigherRound : zMd yX2_countHigherRound cX2_countHigherRound 8 (some .int) 1 := ⟨zwC_X2_countHigherRound, zwN_RX2, by decide, by decide, by decide, by decide⟩
theorem zmd_X2_isSure : zMd yX2_isSure cX2_isSure 5 (some .boolean) 1 := ⟨zwC_X2_isSure, zwN_RX2, by decide, by decide, by decide, by decide⟩
theorem zmd_X2_lowestBeside : zMd yX2_lowestBeside cX2_lowestBeside 6 (some .int) 1 := ⟨zwC_X2_lowestBeside, zwN_RX2, by decide, by decide, by decide, by decide⟩
theorem zmd_X2_runWater : zMd yX2_runWater cX2_runWater 3 none 0 := ⟨zwC_X2_runWater, zwN_RX2, by decide, by decide, by decide, by decide⟩
theorem zmd_X2_sortByMiddle : zMd yX2_sortByMiddle cX2_sortByMiddle 2 none 0 := ⟨zwC_X2_sortByMiddle, zwN_RX2, by decide, by decide, by decide, by decide⟩
theorem zmd_X2_survey : zMd yX2_survey cX2_survey 4 none 2 := ⟨zwC_X2_survey, zwN_RX2, by decide, by decide, by decide, by decide⟩
theorem zmd_X3_bothLevels : zMd yX3_bothLevels cX3_bothLevels 2 (some .int) 1 := ⟨zwC_X3_bothLevels, zwN_RX3, by decide, by decide, by decide, by decide⟩
theorem zmd_X3_clear : zMd yX3_clear cX3_clear 2 none 0 := ⟨zwC_X3_clear, zwN_RX3, by decide, by decide, by decide, by decide⟩
theorem zmd_X3_compares : zMd yX3_compares cX3_compares 3 (some .boolean) 3 := ⟨zwC_X3_compares, zwN_RX3, by decide, by decide, by decide, by decide⟩
theorem zmd_X3_finish : zMd yX3_finish cX3_finish 5 none 0 := ⟨zwC_X3_finish, zwN_RX3, by decide, by decide, by decide, by decide⟩
theorem zmd_X3_first : zMd yX3_first cX3_first 5 (some .int) 3 := ⟨zwC_X3_first, zwN_RX3, by decide, by decide, by decide, by decide⟩
theorem zmd_X3_firstAgeAt : zMd yX3_firstAgeAt cX3_firstAgeAt 4 (some .int) 2 := ⟨zwC_X3_firstAgeAt, zwN_RX3, by decide, by decide, by decide, by decide⟩
theorem zmd_X3_holds : zMd yX3_holds cX3_holds 9 (some .boolean) 2 := ⟨zwC_X3_holds, zwN_RX3, by decide, by decide, by decide, by decide⟩
theorem zmd_X3_putAsking : zMd yX3_putAsking cX3_putAsking 4 none 3 := ⟨zwC_X3_putAsking, zwN_RX3, by decide, by decide, by decide, by decide⟩
theorem zmd_X3_putComparison : zMd yX3_putComparison cX3_putComparison 4 none 3 := ⟨zwC_X3_putComparison, zwN_RX3, by decide, by decide, by decide, by decide⟩
theorem zmd_X3_putEdge : zMd yX3_putEdge cX3_putEdge 2 none 1 := ⟨zwC_X3_putEdge, zwN_RX3, by decide, by decide, by decide, by decide⟩
theorem zmd_X3_putSea : zMd yX3_putSea cX3_putSea 4 none 3 := ⟨zwC_X3_putSea, zwN_RX3, by decide, by decide, by decide, by decide⟩
theorem zmd_X3_putStep : zMd yX3_putStep cX3_putStep 2 none 1 := ⟨zwC_X3_putStep, zwN_RX3, by decide, by decide, by decide, by decide⟩
theorem zmd_X4_before : zMd yX4_before cX4_before 5 (some .int) 2 := ⟨zwC_X4_before, zwN_RX4, by decide, by decide, by decide, by decide⟩
theorem zmd_X4_forget : zMd yX4_forget cX4_forget 1 none 0 := ⟨zwC_X4_forget, zwN_RX4, by decide, by decide, by decide, by decide⟩
theorem zmd_X4_isNotBehind : zMd yX4_isNotBehind cX4_isNotBehind 6 (some .boolean) 3 := ⟨zwC_X4_isNotBehind, zwN_RX4, by decide, by decide, by decide, by decide⟩
theorem zmd_X4_of : zMd yX4_of cX4_of 3 (some .int) 2 := ⟨zwC_X4_of, zwN_RX4, by decide, by decide, by decide, by decide⟩
theorem zmd_X4_ranked : zMd yX4_ranked cX4_ranked 6 (some .int) 2 := ⟨zwC_X4_ranked, zwN_RX4, by decide, by decide, by decide, by decide⟩
theorem zmd_X4_workOut : zMd yX4_workOut cX4_workOut 7 none 3 := ⟨zwC_X4_workOut, zwN_RX4, by decide, by decide, by decide, by decide⟩
theorem zmd_X5_compare : zMd yX5_compare cX5_compare 22 (some .int) 4 := ⟨zwC_X5_compare, zwN_RX5, by decide, by decide, by decide, by decide⟩
theorem zmd_X5_cutTo : zMd yX5_cutTo cX5_cutTo 3 (some .long) 1 := ⟨zwC_X5_cutTo, zwN_RX5, by decide, by decide, by decide, by decide⟩
theorem zmd_X5_part : zMd yX5_part cX5_part 2 (some .long) 1 := ⟨zwC_X5_part, zwN_RX5, by decide, by decide, by decide, by decide⟩
theorem zmd_X5_put : zMd yX5_put cX5_put 12 none 2 := ⟨zwC_X5_put, zwN_RX5, by decide, by decide, by decide, by decide⟩
theorem zmd_X6_askedWord : zMd yX6_askedWord cX6_askedWord 1 (some .int) 0 := ⟨zwC_X6_askedWord, zwN_RX6, by decide, by decide, by decide, by decide⟩
theorem zmd_X6_comparingSign : zMd yX6_comparingSign cX6_comparingSign 1 (some .int) 0 := ⟨zwC_X6_comparingSign, zwN_RX6, by decide, by decide, by decide, by decide⟩
theorem zmd_X6_howWord : zMd yX6_howWord cX6_howWord 1 (some .int) 0 := ⟨zwC_X6_howWord, zwN_RX6, by decide, by decide, by decide, by decide⟩
theorem zmd_X6_isSign : zMd yX6_isSign cX6_isSign 2 (some .boolean) 1 := ⟨zwC_X6_isSign, zwN_RX6, by decide, by decide, by decide, by decide⟩
theorem zmd_X6_isWord : zMd yX6_isWord cX6_isWord 3 (some .boolean) 1 := ⟨zwC_X6_isWord, zwN_RX6, by decide, by decide, by decide, by decide⟩
theorem zmd_X6_put : zMd yX6_put cX6_put 3 none 1 := ⟨zwC_X6_put, zwN_RX6, by decide, by decide, by decide, by decide⟩
theorem zmd_X6_read : zMd yX6_read cX6_read 6 (some .int) 2 := ⟨zwC_X6_read, zwN_RX6, by decide, by decide, by decide, by decide⟩
theorem zmd_X6_readAll : zMd yX6_readAll cX6_readAll 4 (some .boolean) 2 := ⟨zwC_X6_readAll, zwN_RX6, by decide, by decide, by decide, by decide⟩
theorem zmd_X6_readAny : zMd yX6_readAny cX6_readAny 4 (some .boolean) 2 := ⟨zwC_X6_readAny, zwN_RX6, by decide, by decide, by decide, by decide⟩
theorem zmd_X6_readAsking : zMd yX6_readAsking cX6_readAsking 5 (some .boolean) 2 := ⟨zwC_X6_readAsking, zwN_RX6, by decide, by decide, by decide, by decide⟩
theorem zmd_X6_readCarry : zMd yX6_readCarry cX6_readCarry 3 (some .boolean) 1 := ⟨zwC_X6_readCarry, zwN_RX6, by decide, by decide, by decide, by decide⟩
theorem zmd_X6_readCatch : zMd yX6_readCatch cX6_readCatch 2 (some .boolean) 1 := ⟨zwC_X6_readCatch, zwN_RX6, by decide, by decide, by decide, by decide⟩
theorem zmd_X6_readOne : zMd yX6_readOne cX6_readOne 6 (some .boolean) 2 := ⟨zwC_X6_readOne, zwN_RX6, by decide, by decide, by decide, by decide⟩
theorem zmd_X6_readSea : zMd yX6_readSea cX6_readSea 4 (some .boolean) 1 := ⟨zwC_X6_readSea, zwN_RX6, by decide, by decide, by decide, by decide⟩
theorem zmd_X6_ruleWord : zMd yX6_ruleWord cX6_ruleWord 1 (some .int) 0 := ⟨zwC_X6_ruleWord, zwN_RX6, by decide, by decide, by decide, by decide⟩
theorem zmd_X6_step : zMd yX6_step cX6_step 1 none 0 := ⟨zwC_X6_step, zwN_RX6, by decide, by decide, by decide, by decide⟩
theorem zmd_X6_takeNumber : zMd yX6_takeNumber cX6_takeNumber 3 (some .boolean) 2 := ⟨zwC_X6_takeNumber, zwN_RX6, by decide, by decide, by decide, by decide⟩
theorem zmd_X6_takeSign : zMd yX6_takeSign cX6_takeSign 2 (some .boolean) 1 := ⟨zwC_X6_takeSign, zwN_RX6, by decide, by decide, by decide, by decide⟩
theorem zmd_X7_countBuckets : zMd yX7_countBuckets cX7_countBuckets 3 (some .int) 0 := ⟨zwC_X7_countBuckets, zwN_RX7, by decide, by decide, by decide, by decide⟩
theorem zmd_X7_isPlace : zMd yX7_isPlace cX7_isPlace 3 (some .boolean) 1 := ⟨zwC_X7_isPlace, zwN_RX7, by decide, by decide, by decide, by decide⟩
theorem zmd_X7_take : zMd yX7_take cX7_take 2 none 1 := ⟨zwC_X7_take, zwN_RX7, by decide, by decide, by decide, by decide⟩
theorem zmd_X8_countKinds : zMd yX8_countKinds cX8_countKinds 2 (some (.array .int)) 0 := ⟨zwC_X8_countKinds, zwN_RX8, by decide, by decide, by decide, by decide⟩
theorem zmd_X8_forget : zMd yX8_forget cX8_forget 1 none 0 := ⟨zwC_X8_forget, zwN_RX8, by decide, by decide, by decide, by decide⟩
theorem zmd_X8_heightOf : zMd yX8_heightOf cX8_heightOf 2 (some .int) 1 := ⟨zwC_X8_heightOf, zwN_RX8, by decide, by decide, by decide, by decide⟩
theorem zmd_X8_isBank : zMd yX8_isBank cX8_isBank 3 (some .boolean) 2 := ⟨zwC_X8_isBank, zwN_RX8, by decide, by decide, by decide, by decide⟩
theorem zmd_X8_isFord : zMd yX8_isFord cX8_isFord 4 (some .boolean) 2 := ⟨zwC_X8_isFord, zwN_RX8, by decide, by decide, by decide, by decide⟩
theorem zmd_X8_kindOf : zMd yX8_kindOf cX8_kindOf 3 (some .int) 1 := ⟨zwC_X8_kindOf, zwN_RX8, by decide, by decide, by decide, by decide⟩
theorem zmd_X8_standsTo : zMd yX8_standsTo cX8_standsTo 3 (some .int) 2 := ⟨zwC_X8_standsTo, zwN_RX8, by decide, by decide, by decide, by decide⟩
theorem zmd_X8_stepInland : zMd yX8_stepInland cX8_stepInland 7 none 1 := ⟨zwC_X8_stepInland, zwN_RX8, by decide, by decide, by decide, by decide⟩
theorem zmd_X8_turnTo : zMd yX8_turnTo cX8_turnTo 4 none 1 := ⟨zwC_X8_turnTo, zwN_RX8, by decide, by decide, by decide, by decide⟩
theorem zmd_X8_wordsOf : zMd yX8_wordsOf cX8_wordsOf 3 (some (.array .int)) 2 := ⟨zwC_X8_wordsOf, zwN_RX8, by decide, by decide, by decide, by decide⟩
theorem zmd_X9_choose : zMd yX9_choose cX9_choose 4 none 3 := ⟨zwC_X9_choose, zwN_RX9, by decide, by decide, by decide, by decide⟩
theorem zmd_X9_forget : zMd yX9_forget cX9_forget 1 none 0 := ⟨zwC_X9_forget, zwN_RX9, by decide, by decide, by decide, by decide⟩
theorem zmd_X9_isOf : zMd yX9_isOf cX9_isOf 3 (some .boolean) 2 := ⟨zwC_X9_isOf, zwN_RX9, by decide, by decide, by decide, by decide⟩
theorem zmd_X9_lay : zMd yX9_lay cX9_lay 9 none 3 := ⟨zwC_X9_lay, zwN_RX9, by decide, by decide, by decide, by decide⟩
theorem zmd_X9_weigh : zMd yX9_weigh cX9_weigh 10 none 3 := ⟨zwC_X9_weigh, zwN_RX9, by decide, by decide, by decide, by decide⟩
theorem zws_0 : (77, "to", 0) ∈ zsr := List.mem_of_getElem? (i := 0) rfl
theorem zws_1 : (99, "if", 1) ∈ zsr := List.mem_of_getElem? (i := 1) rfl
theorem zws_2 : (110, "or", 2) ∈ zsr := List.mem_of_getElem? (i := 2) rfl
theorem zws_3 : (119, "and", 3) ∈ zsr := List.mem_of_getElem? (i := 3) rfl
theorem zws_4 : (121, "not", 4) ∈ zsr := List.mem_of_getElem? (i := 4) rfl
theorem zws_5 : (143, "sea", 5) ∈ zsr := List.mem_of_getElem? (i := 5) rfl
theorem zws_6 : (145, "sink", 6) ∈ zsr := List.mem_of_getElem? (i := 6) rfl
theorem zws_7 : (147, "live", 7) ∈ zsr := List.mem_of_getElem? (i := 7) rfl
theorem zws_8 : (149, "fish", 8) ∈ zsr := List.mem_of_getElem? (i := 8) rfl
theorem zws_9 : (151, "keep", 9) ∈ zsr := List.mem_of_getElem? (i := 9) rfl
theorem zws_10 : (153, "carry", 10) ∈ zsr := List.mem_of_getElem? (i := 10) rfl
theorem zws_11 : (155, "catch", 11) ∈ zsr := List.mem_of_getElem? (i := 11) rfl
theorem zws_12 : (157, "fished", 12) ∈ zsr := List.mem_of_getElem? (i := 12) rfl
theorem zws_13 : (159, "cored", 13) ∈ zsr := List.mem_of_getElem? (i := 13) rfl
theorem zws_14 : (161, "grabbed", 14) ∈ zsr := List.mem_of_getElem? (i := 14) rfl
theorem zws_15 : (163, "x", 15) ∈ zsr := List.mem_of_getElem? (i := 15) rfl
theorem zws_16 : (165, "y", 16) ∈ zsr := List.mem_of_getElem? (i := 16) rfl
theorem zws_17 : (167, "age", 17) ∈ zsr := List.mem_of_getElem? (i := 17) rfl
theorem zws_18 : (169, "height", 18) ∈ zsr := List.mem_of_getElem? (i := 18) rfl
theorem zws_19 : (171, "river", 19) ∈ zsr := List.mem_of_getElem? (i := 19) rfl
theorem zws_20 : (173, "coast", 20) ∈ zsr := List.mem_of_getElem? (i := 20) rfl
theorem zws_21 : (175, "wind", 21) ∈ zsr := List.mem_of_getElem? (i := 21) rfl
theorem zwQ_RX10_9 : (RX10, 9, yX6_init, "DrownedLand") ∈ znt := List.mem_of_getElem? (i := 0) rfl
theorem zwQ_RX10_29 : (RX10, 29, yX8_init, "DrownedLand") ∈ znt := List.mem_of_getElem? (i := 1) rfl
theorem zwQ_RX10_41 : (RX10, 41, yX4_init, "DrownedLand") ∈ znt := List.mem_of_getElem? (i := 2) rfl
theorem zwQ_RX10_48 : (RX10, 48, yX1_init, "DrownedLand") ∈ znt := List.mem_of_getElem? (i := 3) rfl
theorem zwQ_RX10_55 : (RX10, 55, yX9_init, "DrownedLand") ∈ znt := List.mem_of_getElem? (i := 4) rfl
theorem zwQ_RX10_62 : (RX10, 62, yX5_init, "DrownedLand") ∈ znt := List.mem_of_getElem? (i := 5) rfl
theorem zwQ_RX10_73 : (RX10, 73, yX3_init, "DrownedLand") ∈ znt := List.mem_of_getElem? (i := 6) rfl
theorem zwQ_RX1_19 : (RX1, 19, yX10_beside, "DrownedLand") ∈ znt := List.mem_of_getElem? (i := 7) rfl
theorem zwQ_RX2_74 : (RX2, 74, yX10_beside, "DrownedLand") ∈ znt := List.mem_of_getElem? (i := 8) rfl
theorem zwQ_RX2_77 : (RX2, 77, yX10_isCell, "DrownedLand") ∈ znt := List.mem_of_getElem? (i := 9) rfl
theorem zwQ_RX8_21 : (RX8, 21, yX2_init, "DrownedLand") ∈ znt := List.mem_of_getElem? (i := 10) rfl
theorem zwQ_RX8_46 : (RX8, 46, yX10_beside, "DrownedLand") ∈ znt := List.mem_of_getElem? (i := 11) rfl

/-! texts: the class's constants, by their places -/
def zo_i2c (a : Int) : Int := ((Int32.ofInt a).toUInt32 % 65536).toInt32.toInt
def zcok (v : Int) : Prop := (Int32.ofInt v).toUInt32.toUInt16.toUInt32.toInt32 = Int32.ofInt v
section zS
variable {τ : Type} {bs : ByteArray} {own : String} {nL : Nat} {ret : Option FieldType} {κ : zC} {w : zW} {n : Nat × Nat × Nat} {pc : Nat} {L : List (Nat × Value)} {S S0 : List Value} {M : zM} {o : Option τ} {E : τ → Prop}
def zsl_ (j : Nat) : Int := ((zsl.getD j 0 : Nat) : Int)
def zsc_ (j i : Nat) : Int := (((zsb.getD j []).getD i 0).toInt)
theorem zv_ldcs {idx j : Nat} {tx : String} (hown : own = RX6) (hq : (idx, tx, j) ∈ zsr) (d : decode bs pc = .ok (.ldc idx, 2)) (k : zV bs own nL ret κ w n (pc + 2) L (rn w (1000000 + j) :: S) M o E) : zV bs own nL ret κ w n pc L S M o E := by
  intro t ho hE
  have k := k t ho hE
  obtain ⟨p, l, e, R, st, m, args, below, meth, cd, A, Qc, mc, ms⟩ := κ
  intro X H locs ls hH hS hl
  subst hown
  exact va_ldcS X.1 X.2.1 X.2.2.2.1 (X.2.2.2.2.2.2.2.1.2.2.1 _ hq) d (k X H locs ls hH hS hl)
theorem zv_sval {idx j : Nat} (hj : j < zsn) (hw : Cond.fieldLink own idx "java/lang/String" "value" "[B" ∈ lw_tbl) (d : decode bs pc = .ok (.getfield idx, 3)) (k : zV bs own nL ret κ w n (pc + 3) L (rn w (2000000 + j) :: S) M o E) : zV bs own nL ret κ w n pc L (rn w (1000000 + j) :: S) M o E := by
  intro t ho hE
  have k := k t ho hE
  obtain ⟨p, l, e, R, st, m, args, below, meth, cd, A, Qc, mc, ms⟩ := κ
  intro X H locs ls hH hS hl
  exact vk_getf X.1 X.2.1 (X.2.2.2.2.2.2.2.1.2.2.2.1.1 j hj).2.2.1 hS X.2.2.2.1 (X.2.2.2.2.1 _ (zmT hw rfl)) (fun _ h => h) d (k X H locs ls hH hS hl)
theorem zv_scod {idx j : Nat} (hj : j < zsn) (hw : Cond.fieldLink own idx "java/lang/String" "coder" "B" ∈ lw_tbl) (d : decode bs pc = .ok (.getfield idx, 3)) (k : zV bs own nL ret κ w n (pc + 3) L (iv 0 :: S) M o E) : zV bs own nL ret κ w n pc L (rn w (1000000 + j) :: S) M o E := by
  intro t ho hE
  have k := k t ho hE
  obtain ⟨p, l, e, R, st, m, args, below, meth, cd, A, Qc, mc, ms⟩ := κ
  intro X H locs ls hH hS hl
  exact vk_getf X.1 X.2.1 (X.2.2.2.2.2.2.2.1.2.2.2.1.1 j hj).2.1 hS X.2.2.2.1 (X.2.2.2.2.1 _ (zmT hw rfl)) (fun _ h => h) d (k X H locs ls hH hS hl)
theorem zv_scmp {idx : Nat} (hw : Cond.fieldLink own idx "java/lang/String" "COMPACT_STRINGS" "Z" ∈ lw_tbl) (d : decode bs pc = .ok (.getstatic idx, 3)) (k : zV bs own nL ret κ w n (pc + 3) L (iv 1 :: S) M o E) : zV bs own nL ret κ w n pc L S M o E := by
  intro t ho hE
  have k := k t ho hE
  obtain ⟨p, l, e, R, st, m, args, below, meth, cd, A, Qc, mc, ms⟩ := κ
  intro X H locs ls hH hS hl
  exact va_gets X.1 X.2.1 X.2.2.2.2.2.2.2.1.2.2.2.2.1 hS X.2.2.2.1 (X.2.2.2.2.1 _ (zmT hw rfl)) (fun _ h => h) d (k X H locs ls hH hS hl)
theorem zv_sfmt {idx : Nat} (hw : Cond.fieldLink own idx "jdk/internal/util/Preconditions" "SIOOBE_FORMATTER" "Ljava/util/function/BiFunction;" ∈ lw_tbl) (d : decode bs pc = .ok (.getstatic idx, 3)) (k : ∀ v : Value, (v = .null ∨ ∃ a, v = .ref a) → zV bs own nL ret κ w n (pc + 3) L (v :: S) M o E) : zV bs own nL ret κ w n pc L S M o E := by
  intro t ho hE
  have k := fun v hv => k v hv t ho hE
  obtain ⟨p, l, e, R, st, m, args, below, meth, cd, A, Qc, mc, ms⟩ := κ
  intro X H locs ls hH hS hl
  rcases X.2.2.2.2.2.2.2.1.2.2.2.2.2 with h | ⟨a, h⟩
  · exact va_gets X.1 X.2.1 h hS X.2.2.2.1 (X.2.2.2.2.1 _ (zmT hw rfl)) (fun _ h => h) d (k _ (Or.inl rfl) X H locs ls hH hS hl)
  · exact va_gets X.1 X.2.1 h hS X.2.2.2.1 (X.2.2.2.2.1 _ (zmT hw rfl)) (fun _ h => h) d (k _ (Or.inr ⟨a, rfl⟩) X H locs ls hH hS hl)
theorem zv_slen {j : Nat} (hj : j < zsn) (d : decode bs pc = .ok (.arraylength, 1)) (k : zV bs own nL ret κ w n (pc + 1) L (iv (zsl_ j) :: S) M o E) : zV bs own nL ret κ w n pc L (rn w (2000000 + j) :: S) M o E := by
  intro t ho hE
  have k := k t ho hE
  obtain ⟨p, l, e, R, st, m, args, below, meth, cd, A, Qc, mc, ms⟩ := κ
  intro X H locs ls hH hS hl
  exact va_tlen X.1 X.2.1 (X.2.2.2.2.2.2.2.1.2.2.2.1.1 j hj).2.2.2 hS rfl d (k X H locs ls hH hS hl)
theorem zv_sbald {j : Nat} {i : Int} (hj : j < zsn) (d : decode bs pc = .ok (.baload, 1)) (k : zV bs own nL ret κ w n (pc + 1) L (iv (zsc_ j i.toNat) :: S) M o E) : zV bs own nL ret κ w n pc L (iv i :: rn w (2000000 + j) :: S) M (zgd (0 ≤ i ∧ i < zsl_ j) o) E := zv_gd fun hg => by
  intro t ho hE
  have k := k t ho hE
  obtain ⟨p, l, e, R, st, m, args, below, meth, cd, A, Qc, mc, ms⟩ := κ
  intro X H locs ls hH hS hl
  have hz := zix (n := zsl.getD j 0) hg (by have : ∀ j, j < zsn → zsl.getD j 0 < 100 := by decide
                                            have := this j hj
                                            omega)
  refine va_tb X.1 X.2.1 (X.2.2.2.2.2.2.2.1.2.2.2.1.1 j hj).2.2.2 hS hz.1 (v := iv (zsc_ j i.toNat)) ?_ d (k X H locs ls hH hS hl)
  rw [hz.2]
  unfold iv zsc_
  rw [zi_back]
theorem zv_i2c {a : Int} (d : decode bs pc = .ok (.i2c, 1)) (k : zV bs own nL ret κ w n (pc + 1) L (iv (zo_i2c a) :: S) M o E) : zV bs own nL ret κ w n pc L (iv a :: S) M o E :=
  zv_w (fun _ _ _ _ _ _ _ _ _ _ _ _ _ _ _ _ hx hb hts hown hl k => lv_i2c hx hb d (by unfold zo_i2c; rw [zi_back]) k) k
theorem zv_callT {y : MethodName} {ybs : ByteArray} {ynL : Nat} {yret : Option FieldType} {d j idx na : Nat} {oc : Option (zM × Int)} {X : zM → Int → Option τ} (As : List Value) (hj : j < zsn) (hc : zCn κ.2.1 y ybs ynL yret d 1 w (rn w (1000000 + j) :: As) M oc) (hm : zMd y ybs ynL yret na) (hi : Cond.instanceMethod y ∈ lw_tbl) (hs : Cond.selects "java/lang/String" y y ∈ lw_tbl) (hlk : Cond.methodLink own idx y ∈ lw_tbl) (hna : As.length = na) (hd : d + 1 ≤ n.2.2) (hst : S0 = As.reverse ++ rn w (1000000 + j) :: S) (hW : (S.map fun v => v.category).sum ≤ 8) (dc : decode bs pc = .ok (.invokevirtual idx, 3))
    (k : ∀ M' v, oc = some (M', v) → zV bs own nL ret κ w n (pc + 3) L (iv v :: S) M' (X M' v) E) : zV bs own nL ret κ w n pc L S0 M (zbd oc X) E := by
  refine zv_run hc ?_ k
  rintro p l e R s m args below meth cd A Qc mc ms rfl Y H locs ls hH hS hl M' v hM
  have hts := Y.2.2.2.2.1
  have hE := Y.2.2.2.2.2.2.2.1
  have hA := zA_in rfl Y hS
  obtain ⟨cell, q1, q2, q3⟩ := vk_recv hE.2.2.2.1 hj hS
  obtain ⟨r1, r2, r3, r4⟩ := Y.2.2.2.2.2.2.2.2.2.2.2
  obtain ⟨w1, w2, w3, w4, w5, w6⟩ := hm
  refine va_runV (rest := S) ⟨Y.1, Y.2.1, Y.2.2.1, Y.2.2.2.1, hts⟩ hM ⟨callB_of na hts (zgoodIn w1) rfl rfl rfl (hts _ (zmT w2 rfl)) (hts _ (zmT hlk rfl)) ⟨w4, w5, w6⟩ (zroomR hd r1 r2 w3), hts _ (zmT hi rfl), hts _ (zmT hs rfl)⟩ ⟨zPc_blind, ⟨cell, q1, q2, q3⟩, fun U hU hW => ⟨rfl, by rw [hU], by rw [hU]; exact hH, zEv_call hE hS hA hU hW⟩⟩ rfl hna hl.1 hst (lv_room hW) dc ⟨r3, r4⟩
end zS
section zSm
variable {w : zW}
def f_J3_chk (a b : Int) : Option Int := zbr a 0 (a < 0) none (zbr a b (a < b) (some a) none)
theorem c_J3_checkIndex (l : Launch) (hw : zWk w) (p0 p1 : Int) (v : Value) (hv : v = .null ∨ ∃ a, v = .ref a) (M0 : zM) : zCn l yJ3_checkIndex_8e157 cJ3_checkIndex_8e157 3 (some .int) 0 1 w [iv p0, iv p1, v] M0 ((f_J3_chk p0 p1).map fun v => (M0, v)) := by
  refine zCn_ofP (own := RJ3) (by decide) rfl hw (by rcases hv with rfl | ⟨a, rfl⟩ <;> exact Nat.le_of_ble_eq_true rfl) [(0, iv p0), (1, iv p1), (2, v)] rfl ?_
  intro κ hl
  subst hl
  unfold f_J3_chk
  refine zv_iload_n dJ3_checkIndex_8e157_0 0 rfl ?_
  refine zv_if_lt (tgt := 9) dJ3_checkIndex_8e157_1 (by decide) zv_none ?_
  refine zv_iload_n dJ3_checkIndex_8e157_4 0 rfl ?_
  refine zv_iload_n dJ3_checkIndex_8e157_5 1 rfl ?_
  refine zv_icmp_lt (tgt := 16) dJ3_checkIndex_8e157_6 (by decide) ?_ zv_none
  refine zv_iload_n dJ3_checkIndex_8e157_16 0 rfl ?_
  exact zv_ret (fun h => h) (zv_iret dJ3_checkIndex_8e157_17)
def f_J0_chk (a b : Int) (M0 : zM) : Option zM := zb1 (f_J3_chk a b) (fun _ => some M0)
theorem c_J0_checkIndex (l : Launch) (hw : zWk w) (p0 p1 : Int) (M0 : zM) : zCn l yJ0_checkIndex_df160 cJ0_checkIndex_df160 2 none 1 0 w [iv p0, iv p1] M0 ((f_J0_chk p0 p1 M0).map fun m => (m, (0 : Int))) := by
  refine zCn_ofV (own := RJ0) (by decide) rfl hw (Nat.le_of_ble_eq_true rfl) [(0, iv p0), (1, iv p1)] rfl ?_
  intro κ hl
  subst hl
  unfold f_J0_chk
  refine zv_iload_n dJ0_checkIndex_df160_0 0 rfl ?_
  refine zv_iload_n dJ0_checkIndex_df160_1 1 rfl ?_
  refine zv_sfmt zwF_RJ0_1053 dJ0_checkIndex_df160_2 (fun v hv => ?_)
  refine zv_pc (zv_callSi [iv p0, iv p1, v] (c_J3_checkIndex κ.2.1 hw p0 p1 v hv M0) zmd_J3_checkIndex_8e157 zwT_J3_checkIndex_8e157 zwM_RJ0_1059 rfl (by decide) rfl (Nat.le_of_ble_eq_true rfl) dJ0_checkIndex_df160_5 (fun mh x h => ?_))
  obtain rfl := zpuE h
  refine zv_pop dJ0_checkIndex_df160_8 rfl ?_
  exact zv_ret (fun h => h) (zv_vret (v := 0) dJ0_checkIndex_df160_9)
theorem zv_cret {bs : ByteArray} {own : String} {nL : Nat} {κ : zC} {n : Nat × Nat × Nat} {pc : Nat} {L : List (Nat × Value)} {M : zM} {v : Int} (hn : zcok v) (d : decode bs pc = .ok (.ireturn, 1)) : zV bs own nL (some .char) κ w n pc L [iv v] M (some (M, v)) (zRt κ w n 1) := by
  intro t ho hE
  cases ho
  obtain ⟨p, l, e, R, s, m, args, below, meth, cd, A, Qc, mc, ms⟩ := κ
  intro Y H locs ls hH hS hl
  obtain ⟨h1, h2, hq⟩ := hE
  refine W.widen h1 h2 ?_
  exact W.zret (ty := .char) Y.1 Y.2.1 Y.2.2.2.2.2.1 (by show Value.int _ = Value.int _; exact congrArg Value.int hn) (fun u hu _ => hq H locs u hH hS hu) (fun q hq => hS.2.2 q hq) d (hlocks := Y.2.2.2.2.2.2.1)
theorem zv_bret {bs : ByteArray} {own : String} {nL : Nat} {κ : zC} {n : Nat × Nat × Nat} {pc : Nat} {L : List (Nat × Value)} {M : zM} {v : Int} (hn : narrow .byte (.int (Int32.ofInt v)) = .int (Int32.ofInt v)) (d : decode bs pc = .ok (.ireturn, 1)) : zV bs own nL (some .byte) κ w n pc L [iv v] M (some (M, v)) (zRt κ w n 1) := by
  intro t ho hE
  cases ho
  obtain ⟨p, l, e, R, s, m, args, below, meth, cd, A, Qc, mc, ms⟩ := κ
  intro Y H locs ls hH hS hl
  obtain ⟨h1, h2, hq⟩ := hE
  refine W.widen h1 h2 ?_
  exact W.zret (ty := .byte) Y.1 Y.2.1 Y.2.2.2.2.2.1 hn (fun u hu _ => hq H locs u hH hS hu) (fun q hq => hS.2.2 q hq) d (hlocks := Y.2.2.2.2.2.2.1)
/-- the char at a place of a text -/
def zch (j : Nat) (i : Int) : Int := zo_i2c (zo_and (zsc_ j i.toNat) 255)
def f_J1_charAt (j : Nat) (i : Int) (M0 : zM) : Option Int := zb1 (f_J0_chk i (zsl_ j) M0) (fun _ => zgd (0 ≤ i ∧ i < zsl_ j) (some (zch j i)))
theorem zch_ok : ∀ j, j < zsn → ∀ i, i < zsl.getD j 0 → zcok (zch j (i : Int)) := by unfold zcok; decide +kernel
theorem zchk_M {a b : Int} {M0 m : zM} (h : f_J0_chk a b M0 = some m) : m = M0 := by
  unfold f_J0_chk at h
  cases h1 : f_J3_chk a b with
  | none => rw [h1] at h; cases h
  | some x => rw [h1] at h; cases h; rfl
theorem c_J1_charAt (l : Launch) (hw : zWk w) (p0 : Nat) (p1 : Int) (M0 : zM) (hp0 : p0 < zsn) : zCn l yJ1_charAt_3b067 cJ1_charAt_3b067 2 (some .char) 2 1 w [rn w (2000000 + p0), iv p1] M0 ((f_J1_charAt p0 p1 M0).map fun v => (M0, v)) := by
  refine zCn_ofP (own := RJ1) (by decide) rfl hw (Nat.le_of_ble_eq_true rfl) [(0, rn w (2000000 + p0)), (1, iv p1)] rfl ?_
  intro κ hl
  subst hl
  unfold f_J1_charAt
  refine zv_iload_n dJ1_charAt_3b067_0 1 rfl ?_
  refine zv_rload_n dJ1_charAt_3b067_1 0 rfl ?_
  refine zv_slen hp0 dJ1_charAt_3b067_2 ?_
  refine zv_vc (zv_callSv [iv p1, iv (zsl_ p0)] (c_J0_checkIndex κ.2.1 hw p1 (zsl_ p0) M0) zmd_J0_checkIndex_df160 zwT_J0_checkIndex_df160 zwM_RJ1_9 rfl (by decide) rfl (Nat.le_of_ble_eq_true rfl) dJ1_charAt_3b067_3 (fun m1 _ h => ?_))
  have hm : m1 = M0 := by
    cases h1 : f_J0_chk p1 (zsl_ p0) M0 with
    | none => rw [h1] at h; cases h
    | some x => rw [h1] at h; cases h; exact zchk_M h1
  subst hm
  refine zv_gd (fun hg => ?_)
  refine zv_rload_n dJ1_charAt_3b067_6 0 rfl ?_
  refine zv_iload_n dJ1_charAt_3b067_7 1 rfl ?_
  have hb := zv_sbald (w := w) (o := some (zch p0 p1)) (E := fun v => zRt κ w (0, 0, 2) 1 (m1, v)) (L := [(0, rn w (2000000 + p0)), (1, iv p1)]) (S := []) (M := m1) (own := RJ1) (nL := 2) (ret := some .char) (κ := κ) (n := (0, 0, 2)) (i := p1) hp0 dJ1_charAt_3b067_8 (by
    refine zv_sipush (z := 255) dJ1_charAt_3b067_9 (by decide) ?_
    refine zv_iand dJ1_charAt_3b067_12 ?_
    refine zv_i2c dJ1_charAt_3b067_13 ?_
    refine zv_ret (fun h => h) (zv_cret ?_ dJ1_charAt_3b067_14)
    have := zch_ok p0 hp0 p1.toNat (by unfold zsl_ at hg; omega)
    rw [show ((p1.toNat : Nat) : Int) = p1 by omega] at this
    exact this)
  unfold zgd at hb
  rw [if_pos hg] at hb
  exact hb
theorem c_J0_coder (l : Launch) (hw : zWk w) (p0 : Nat) (M0 : zM) (hp0 : p0 < zsn) : zCn l yJ0_coder_7d493 cJ0_coder_7d493 1 (some .byte) 0 1 w [rn w (1000000 + p0)] M0 ((zbr 1 0 ((1 : Int) = 0) none (some 0)).map fun v => (M0, v)) := by
  refine zCn_ofP (own := RJ0) (by decide) rfl hw (Nat.le_of_ble_eq_true rfl) [(0, rn w (1000000 + p0))] rfl ?_
  intro κ hl
  subst hl
  refine zv_scmp zwF_RJ0_38 dJ0_coder_7d493_0 ?_
  refine zv_if_eq (tgt := 13) dJ0_coder_7d493_3 (by decide) zv_none ?_
  refine zv_rload_n dJ0_coder_7d493_6 0 rfl ?_
  refine zv_scod hp0 zwF_RJ0_15 dJ0_coder_7d493_7 ?_
  refine zv_goto (tgt := 14) dJ0_coder_7d493_10 (by decide) ?_
  exact zv_ret (fun h => h) (zv_bret rfl dJ0_coder_7d493_14)
theorem c_J0_isLatin1 (l : Launch) (hw : zWk w) (p0 : Nat) (M0 : zM) (hp0 : p0 < zsn) : zCn l yJ0_isLatin1_aae02 cJ0_isLatin1_aae02 1 (some .boolean) 0 1 w [rn w (1000000 + p0)] M0 ((zbr 1 0 ((1 : Int) = 0) none (zbr 0 0 (¬ (0 : Int) = 0) none (some 1))).map fun v => (M0, v)) := by
  refine zCn_ofP (own := RJ0) (by decide) rfl hw (Nat.le_of_ble_eq_true rfl) [(0, rn w (1000000 + p0))] rfl ?_
  intro κ hl
  subst hl
  refine zv_scmp zwF_RJ0_38 dJ0_isLatin1_aae02_0 ?_
  refine zv_if_eq (tgt := 17) dJ0_isLatin1_aae02_3 (by decide) zv_none ?_
  refine zv_rload_n dJ0_isLatin1_aae02_6 0 rfl ?_
  refine zv_scod hp0 zwF_RJ0_15 dJ0_isLatin1_aae02_7 ?_
  refine zv_if_ne (tgt := 17) dJ0_isLatin1_aae02_10 (by decide) zv_none ?_
  refine zv_iconst (z := 1) dJ0_isLatin1_aae02_13 ?_
  refine zv_goto (tgt := 18) dJ0_isLatin1_aae02_14 (by decide) ?_
  exact zv_ret (fun h => h) (zv_zrB (by decide) dJ0_isLatin1_aae02_18)
theorem zsl_shr : ∀ j, j < zsn → zo_shr (zsl_ j) 0 = zsl_ j := by decide +kernel
theorem c_J0_length (l : Launch) (hw : zWk w) (p0 : Nat) (M0 : zM) (hp0 : p0 < zsn) : zCn l yJ0_length_8abf5 cJ0_length_8abf5 1 (some .int) 1 1 w [rn w (1000000 + p0)] M0 ((some (zsl_ p0)).map fun v => (M0, v)) := by
  have e : some (zsl_ p0) = zb1 (zbr 1 0 ((1 : Int) = 0) none (some 0)) (fun v => some (zo_shr (zsl_ p0) v)) := by
    show some (zsl_ p0) = some (zo_shr (zsl_ p0) 0)
    rw [zsl_shr p0 hp0]
  rw [e]
  refine zCn_ofP (own := RJ0) (by decide) rfl hw (Nat.le_of_ble_eq_true rfl) [(0, rn w (1000000 + p0))] rfl ?_
  intro κ hl
  subst hl
  refine zv_rload_n dJ0_length_8abf5_0 0 rfl ?_
  refine zv_sval hp0 zwF_RJ0_9 dJ0_length_8abf5_1 ?_
  refine zv_slen hp0 dJ0_length_8abf5_4 ?_
  refine zv_rload_n dJ0_length_8abf5_5 0 rfl ?_
  refine zv_pc (zv_callT [] hp0 (c_J0_coder κ.2.1 hw p0 M0 hp0) zmd_J0_coder_7d493 zwI_J0_coder_7d493 zwS_J0_coder_7d493 zwM_RJ0_335 rfl (by decide) rfl (Nat.le_of_ble_eq_true rfl) dJ0_length_8abf5_6 (fun mh x h => ?_))
  obtain rfl := zpuE h
  refine zv_ishr dJ0_length_8abf5_9 ?_
  exact zv_ret (fun h => h) (zv_iret dJ0_length_8abf5_10)
def f_J0_charAt (j : Nat) (i : Int) (M0 : zM) : Option Int := f_J1_charAt j i M0
theorem zpuS {oc : Option Int} {M M' : zM} {v : Int} (h : (oc.map fun v => (M, v)) = some (M', v)) : M = M' ∧ oc = some v := by
  cases oc with
  | none => cases h
  | some u => cases h; exact ⟨rfl, rfl⟩
theorem f_J1_ok {j : Nat} {i : Int} {M0 : zM} {v : Int} (hj : j < zsn) (h : f_J1_charAt j i M0 = some v) : zcok v := by
  unfold f_J1_charAt at h
  cases h1 : f_J0_chk i (zsl_ j) M0 with
  | none => rw [h1] at h; cases h
  | some m =>
    rw [h1] at h
    change zgd (0 ≤ i ∧ i < zsl_ j) (some (zch j i)) = some v at h
    unfold zgd at h
    split at h
    · rename_i hg
      cases h
      have := zch_ok j hj i.toNat (by unfold zsl_ at hg; omega)
      rw [show ((i.toNat : Nat) : Int) = i by omega] at this
      exact this
    · cases h
theorem c_J0_charAt (l : Launch) (hw : zWk w) (p0 : Nat) (p1 : Int) (M0 : zM) (hp0 : p0 < zsn) : zCn l yJ0_charAt_5068e cJ0_charAt_5068e 2 (some .char) 3 1 w [rn w (1000000 + p0), iv p1] M0 ((f_J0_charAt p0 p1 M0).map fun v => (M0, v)) := by
  have e : f_J0_charAt p0 p1 M0 = zb1 (zbr 1 0 ((1 : Int) = 0) none (zbr 0 0 (¬ (0 : Int) = 0) none (some 1))) (fun v => zbr v 0 (v = 0) none (zb1 (f_J1_charAt p0 p1 M0) (fun v => some v))) := by
    show f_J1_charAt p0 p1 M0 = zb1 (f_J1_charAt p0 p1 M0) (fun v => some v)
    cases f_J1_charAt p0 p1 M0 <;> rfl
  rw [e]
  refine zCn_ofP (own := RJ0) (by decide) rfl hw (Nat.le_of_ble_eq_true rfl) [(0, rn w (1000000 + p0)), (1, iv p1)] rfl ?_
  intro κ hl
  subst hl
  refine zv_rload_n dJ0_charAt_5068e_0 0 rfl ?_
  refine zv_pc (zv_callT [] hp0 (c_J0_isLatin1 κ.2.1 hw p0 M0 hp0) zmd_J0_isLatin1_aae02 zwI_J0_isLatin1_aae02 zwS_J0_isLatin1_aae02 zwM_RJ0_492 rfl (by decide) rfl (Nat.le_of_ble_eq_true rfl) dJ0_charAt_5068e_1 (fun mh x h => ?_))
  obtain rfl := zpuE h
  refine zv_if_eq (tgt := 16) dJ0_charAt_5068e_4 (by decide) zv_none ?_
  refine zv_rload_n dJ0_charAt_5068e_7 0 rfl ?_
  refine zv_sval hp0 zwF_RJ0_9 dJ0_charAt_5068e_8 ?_
  refine zv_iload_n dJ0_charAt_5068e_11 1 rfl ?_
  refine zv_pc (zv_callSi [rn w (2000000 + p0), iv p1] (c_J1_charAt κ.2.1 hw p0 p1 M0 hp0) zmd_J1_charAt_3b067 zwT_J1_charAt_3b067 zwM_RJ0_495 rfl (by decide) rfl (Nat.le_of_ble_eq_true rfl) dJ0_charAt_5068e_12 (fun mh x h => ?_))
  obtain ⟨rfl, h2⟩ := zpuS h
  exact zv_ret (fun h => h) (zv_cret (f_J1_ok hp0 h2) dJ0_charAt_5068e_15)
end zSm

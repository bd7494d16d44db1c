theorem zfx_r {M : zM} : 177 ≤ zfx M ∧ zfx M ≤ 180 := by
  unfold zfx
  repeat' split
  all_goals omega
theorem zst_st {M : zM} {r s : Nat} {u v : Int} : zst (zst M r s u) r s v = zst M r s v := by
  funext a b
  unfold zst
  split <;> rfl
theorem zbd_sg {α β γ : Type} {o : Option (α × β)} {P : α → Prop} [∀ a, Decidable (P a)] {F : α → β → γ} {t : γ} (h : zbd o (fun a b => zgd (P a) (some (F a b))) = some t) : ∃ a b, o = some (a, b) ∧ P a ∧ F a b = t := by
  cases o with
  | none => cases h
  | some x =>
    obtain ⟨a, b⟩ := x
    refine ⟨a, b, rfl, ?_⟩
    have h : zgd (P a) (some (F a b)) = some t := h
    unfold zgd at h
    split at h
    · rename_i hp
      exact ⟨hp, Option.some.inj h⟩
    · cases h
theorem zv_pre {τ : Type} {bs : ByteArray} {own : String} {nL : Nat} {ret : Option FieldType} {κ : zC} {w : zW} {n : Nat × Nat × Nat} {pc : Nat} {L : List (Nat × Value)} {S : List Value} {M : zM} {o : Option τ} {E : τ → Prop} {oc : Option (zM × Int)} {X : zM → Int → Option τ} (h : zV bs own nL ret κ w n pc L S M (zbd oc X) E) (e : o = zbd oc X) : zV bs own nL ret κ w n pc L S M o E := by rw [e]; exact h
theorem zRt_drop {κ : zC} {w : zW} {r i c s d a : Nat} {fr : Nat → Nat} {M Mr : zM} {vr : Int} (hk : w.1 = zKn i) (hi : i ≤ 3) (hr : ztag w.1 r = 0) (hN : zNr Mr r) (h : zRt κ w (c, s, d) 1 (zrs M Mr r, vr)) : zRt κ (zxt w r (1, 0, fr) a) (c, s, d) 1 (Mr, vr) := by
  obtain ⟨p, l, e, R, st, m, args, below, meth, cd, A, Qc, mc, ms⟩ := κ
  refine ⟨h.1, h.2.1, fun H locs u h1 h2 h3 => h.2.2 H locs u (fun q hq => ?_) h2 h3⟩
  have hqr : q ≠ r := fun e => hq (by rw [e]; exact hr)
  have hz := (zxt_ok (kd := (1, 0, fr)) (a := a) hk hi hr hN hq).mp (h1 q (by
    have : ztag (zxt w r (1, 0, fr) a).1 q = ztag w.1 q := by unfold ztag zxt; simp [hqr]
    rw [this]; exact hq))
  exact zok_at hz (by show zrs M Mr r q = Mr q; unfold zrs; exact if_neg hqr) rfl
/-! world: the machine -/
set_option maxRecDepth 20000 in
theorem vl_X10_world_153 {κ : zC} {w : zW} (hw : zWk w)  (l0 : Nat) (l3 : Int) (l5 : Int) (l8 : Int) (l9 : Int) (l10 : Int) (l11 : Int) (l12 : Nat) (g0 : ztag w.1 l0 = 11) (g12 : ztag w.1 l12 = 1)  (E : (Int × zM) → Prop) (hX : ∀ (u13 : Int) (M1 : zM), E (u13, M1) → zB cX10_world RX10 18 (some .int) κ w (1, 1, 6) 236 [(0, rn w l0), (5, iv l5), (12, rn w l12), (13, iv u13)] [] M1)  (y13 : Int) (y14 : Int) (M0 : zM) :
    zV cX10_world RX10 18 (some .int) κ w (1, 1, 6) 153 [(13, iv y13), (14, iv y14), (0, rn w l0), (3, iv l3), (5, iv l5), (8, iv l8), (9, iv l9), (10, iv l10), (11, iv l11), (12, rn w l12)] [] M0 (zw3 (fb_X10_world_153 w.1 l0 l3 l5 l8 l9 l10 l11 l12) zfu y13 y14 M0) E := by
  have hT := hw.1
  refine zv_loop3 (fun y13 y14 M0 => [(13, iv y13), (14, iv y14), (0, rn w l0), (3, iv l3), (5, iv l5), (8, iv l8), (9, iv l9), (10, iv l10), (11, iv l11), (12, rn w l12)]) (fun y13 y14 M0 => M0) (fun y13 y14 M0 => ?_) y13 y14 M0
  unfold fb_X10_world_153
  refine zv_iload dX10_world_153 1 rfl ?_
  refine zv_iload_n dX10_world_155 3 rfl ?_
  refine zv_icmp_ge (tgt := 236) dX10_world_156 (by decide) ?_ ?_
  · exact zv_sub (L' := [(0, rn w l0), (5, iv l5), (12, rn w l12), (13, iv y13)]) [2, 4, 9, 0] rfl (zv_exit (fun h => hX _ _ h))
  refine zv_rload dX10_world_159 9 rfl ?_
  refine zv_iload dX10_world_161 5 rfl ?_
  refine (zv_callVi [iv l8] (c_X0_next κ.2.1 hw l12 l8 M0 g12) zmd_X0_next zwI_X0_next zwS_X0_next zwM_RX10_344 zcd_0 g12 rfl (by decide) rfl (Nat.le_of_ble_eq_true rfl) dX10_world_163 (fun M24 v23 _ => ?_))
  refine zv_istore_p (L' := [(15, iv v23), (13, iv y13), (14, iv y14), (0, rn w l0), (3, iv l3), (5, iv l5), (8, iv l8), (9, iv l9), (10, iv l10), (11, iv l11), (12, rn w l12)]) dX10_world_166 (by decide) rfl ?_
  refine zv_iload dX10_world_168 0 rfl ?_
  refine zv_iload dX10_world_170 7 rfl ?_
  refine zv_joinS3 (fun r => r) 186 (fun x32 x33 M34 => [(13, iv x32), (14, iv x33), (0, rn w l0), (3, iv l3), (5, iv l5), (8, iv l8), (9, iv l9), (10, iv l10), (11, iv l11), (12, rn w l12)]) (fun x32 x33 M34 => []) (fun x32 x33 M34 => M34) ?_ (fun x32 x33 M34 => ?_)
  · refine zv_icmp_lt (tgt := 186) dX10_world_172 (by decide) ?_ ?_
    · exact zv_sub (L' := [(13, iv y13), (14, iv y14), (0, rn w l0), (3, iv l3), (5, iv l5), (8, iv l8), (9, iv l9), (10, iv l10), (11, iv l11), (12, rn w l12)]) [1, 2, 3, 4, 5, 6, 7, 8, 9, 10] rfl (zv_exit (fun h => h))
    refine zv_iload dX10_world_175 0 rfl ?_
    refine zv_iload dX10_world_177 8 rfl ?_
    refine zv_icmp_ge (tgt := 186) dX10_world_179 (by decide) ?_ ?_
    · exact zv_sub (L' := [(13, iv y13), (14, iv y14), (0, rn w l0), (3, iv l3), (5, iv l5), (8, iv l8), (9, iv l9), (10, iv l10), (11, iv l11), (12, rn w l12)]) [1, 2, 3, 4, 5, 6, 7, 8, 9, 10] rfl (zv_exit (fun h => h))
    refine zv_iconst (z := 1) dX10_world_182 ?_
    refine zv_goto (tgt := 187) dX10_world_183 (by decide) ?_
    refine zv_istore_p (L' := [(16, iv 1), (15, iv v23), (13, iv y13), (14, iv y14), (0, rn w l0), (3, iv l3), (5, iv l5), (8, iv l8), (9, iv l9), (10, iv l10), (11, iv l11), (12, rn w l12)]) dX10_world_187 (by decide) rfl ?_
    refine zv_rload dX10_world_189 11 rfl ?_
    refine zv_bipush (z := 100) dX10_world_191 (by decide) ?_
    refine (zv_callVi [iv 100] (c_X0_next κ.2.1 hw l12 100 M24 g12) zmd_X0_next zwI_X0_next zwS_X0_next zwM_RX10_344 zcd_0 g12 rfl (by decide) rfl (Nat.le_of_ble_eq_true rfl) dX10_world_193 (fun M26 v25 _ => ?_))
    refine zv_iload dX10_world_196 10 rfl ?_
    refine zv_join1 206 (fun x27 => [(16, iv 1), (13, iv y13), (14, iv y14), (0, rn w l0), (3, iv l3), (5, iv l5), (8, iv l8), (9, iv l9), (10, iv l10), (11, iv l11), (12, rn w l12)]) (fun x27 => [iv x27]) (fun x27 => M26) ?_ (fun x27 => ?_)
    · refine zv_icmp_ge (tgt := 205) dX10_world_198 (by decide) ?_ ?_
      · refine zv_iconst (z := 0) dX10_world_205 ?_
        exact zv_sub (L' := [(16, iv 1), (13, iv y13), (14, iv y14), (0, rn w l0), (3, iv l3), (5, iv l5), (8, iv l8), (9, iv l9), (10, iv l10), (11, iv l11), (12, rn w l12)]) [0, 2, 3, 4, 5, 6, 7, 8, 9, 10, 11] rfl (zv_exit (fun h => h))
      refine zv_iconst (z := 1) dX10_world_201 ?_
      refine zv_goto (tgt := 206) dX10_world_202 (by decide) ?_
      exact zv_sub (L' := [(16, iv 1), (13, iv y13), (14, iv y14), (0, rn w l0), (3, iv l3), (5, iv l5), (8, iv l8), (9, iv l9), (10, iv l10), (11, iv l11), (12, rn w l12)]) [0, 2, 3, 4, 5, 6, 7, 8, 9, 10, 11] rfl (zv_exit (fun h => h))
    refine zv_istore_p (L' := [(17, iv x27), (16, iv 1), (13, iv y13), (14, iv y14), (0, rn w l0), (3, iv l3), (5, iv l5), (8, iv l8), (9, iv l9), (10, iv l10), (11, iv l11), (12, rn w l12)]) dX10_world_206 (by decide) rfl ?_
    refine zv_iload dX10_world_208 2 rfl ?_
    refine zv_joinS1 (fun r => r) 223 (fun x30 => [(14, iv x30), (0, rn w l0), (3, iv l3), (5, iv l5), (8, iv l8), (9, iv l9), (10, iv l10), (11, iv l11), (12, rn w l12)]) (fun x30 => []) (fun x30 => M26) ?_ (fun x30 => ?_)
    · refine zv_if_ne (tgt := 223) dX10_world_210 (by decide) ?_ ?_
      · exact zv_sub (L' := [(14, iv y14), (0, rn w l0), (3, iv l3), (5, iv l5), (8, iv l8), (9, iv l9), (10, iv l10), (11, iv l11), (12, rn w l12)]) [3, 4, 5, 6, 7, 8, 9, 10, 11] rfl (zv_exit (fun h => h))
      refine zv_iload dX10_world_213 1 rfl ?_
      refine zv_if_eq (tgt := 227) dX10_world_215 (by decide) ?_ ?_
      · refine zv_iconst (z := 0) dX10_world_227 ?_
        refine zv_istore_p (L' := [(13, iv 0), (17, iv x27), (16, iv 1), (14, iv y14), (0, rn w l0), (3, iv l3), (5, iv l5), (8, iv l8), (9, iv l9), (10, iv l10), (11, iv l11), (12, rn w l12)]) dX10_world_228 (by decide) rfl ?_
        refine zv_iinc dX10_world_230 3 rfl (fun x28 => [(14, iv x28), (13, iv 0), (17, iv x27), (16, iv 1), (0, rn w l0), (3, iv l3), (5, iv l5), (8, iv l8), (9, iv l9), (10, iv l10), (11, iv l11), (12, rn w l12)]) (by decide) (fun _ => rfl) (fun x28 => ?_)
        refine zv_goto (tgt := 153) dX10_world_233 (by decide) ?_
        exact zv_sub (L' := [(13, iv 0), (14, iv x28), (0, rn w l0), (3, iv l3), (5, iv l5), (8, iv l8), (9, iv l9), (10, iv l10), (11, iv l11), (12, rn w l12)]) [1, 0, 4, 5, 6, 7, 8, 9, 10, 11] rfl (zv_exit (fun h => h))
      refine zv_iload dX10_world_218 0 rfl ?_
      refine zv_if_eq (tgt := 227) dX10_world_220 (by decide) ?_ ?_
      · refine zv_iconst (z := 0) dX10_world_227 ?_
        refine zv_istore_p (L' := [(13, iv 0), (17, iv x27), (16, iv 1), (14, iv y14), (0, rn w l0), (3, iv l3), (5, iv l5), (8, iv l8), (9, iv l9), (10, iv l10), (11, iv l11), (12, rn w l12)]) dX10_world_228 (by decide) rfl ?_
        refine zv_iinc dX10_world_230 3 rfl (fun x29 => [(14, iv x29), (13, iv 0), (17, iv x27), (16, iv 1), (0, rn w l0), (3, iv l3), (5, iv l5), (8, iv l8), (9, iv l9), (10, iv l10), (11, iv l11), (12, rn w l12)]) (by decide) (fun _ => rfl) (fun x29 => ?_)
        refine zv_goto (tgt := 153) dX10_world_233 (by decide) ?_
        exact zv_sub (L' := [(13, iv 0), (14, iv x29), (0, rn w l0), (3, iv l3), (5, iv l5), (8, iv l8), (9, iv l9), (10, iv l10), (11, iv l11), (12, rn w l12)]) [1, 0, 4, 5, 6, 7, 8, 9, 10, 11] rfl (zv_exit (fun h => h))
      exact zv_sub (L' := [(14, iv y14), (0, rn w l0), (3, iv l3), (5, iv l5), (8, iv l8), (9, iv l9), (10, iv l10), (11, iv l11), (12, rn w l12)]) [3, 4, 5, 6, 7, 8, 9, 10, 11] rfl (zv_exit (fun h => h))
    refine zv_iconst (z := 1) dX10_world_223 ?_
    refine zv_goto (tgt := 228) dX10_world_224 (by decide) ?_
    refine zv_istore_p (L' := [(13, iv 1), (14, iv x30), (0, rn w l0), (3, iv l3), (5, iv l5), (8, iv l8), (9, iv l9), (10, iv l10), (11, iv l11), (12, rn w l12)]) dX10_world_228 (by decide) rfl ?_
    refine zv_iinc dX10_world_230 1 rfl (fun x31 => [(14, iv x31), (13, iv 1), (0, rn w l0), (3, iv l3), (5, iv l5), (8, iv l8), (9, iv l9), (10, iv l10), (11, iv l11), (12, rn w l12)]) (by decide) (fun _ => rfl) (fun x31 => ?_)
    refine zv_goto (tgt := 153) dX10_world_233 (by decide) ?_
    exact zv_sub (L' := [(13, iv 1), (14, iv x31), (0, rn w l0), (3, iv l3), (5, iv l5), (8, iv l8), (9, iv l9), (10, iv l10), (11, iv l11), (12, rn w l12)]) [1, 0, 2, 3, 4, 5, 6, 7, 8, 9] rfl (zv_exit (fun h => h))
  refine zv_iconst (z := 0) dX10_world_186 ?_
  refine zv_istore_p (L' := [(16, iv 0), (13, iv x32), (14, iv x33), (0, rn w l0), (3, iv l3), (5, iv l5), (8, iv l8), (9, iv l9), (10, iv l10), (11, iv l11), (12, rn w l12)]) dX10_world_187 (by decide) rfl ?_
  refine zv_rload dX10_world_189 10 rfl ?_
  refine zv_bipush (z := 100) dX10_world_191 (by decide) ?_
  refine (zv_callVi [iv 100] (c_X0_next κ.2.1 hw l12 100 M34 g12) zmd_X0_next zwI_X0_next zwS_X0_next zwM_RX10_344 zcd_0 g12 rfl (by decide) rfl (Nat.le_of_ble_eq_true rfl) dX10_world_193 (fun M36 v35 _ => ?_))
  refine zv_iload dX10_world_196 9 rfl ?_
  refine zv_join1 206 (fun x37 => [(16, iv 0), (13, iv x32), (14, iv x33), (0, rn w l0), (3, iv l3), (5, iv l5), (8, iv l8), (9, iv l9), (10, iv l10), (11, iv l11), (12, rn w l12)]) (fun x37 => [iv x37]) (fun x37 => M36) ?_ (fun x37 => ?_)
  · refine zv_icmp_ge (tgt := 205) dX10_world_198 (by decide) ?_ ?_
    · refine zv_iconst (z := 0) dX10_world_205 ?_
      exact zv_sub (L' := [(16, iv 0), (13, iv x32), (14, iv x33), (0, rn w l0), (3, iv l3), (5, iv l5), (8, iv l8), (9, iv l9), (10, iv l10), (11, iv l11), (12, rn w l12)]) [0, 1, 2, 3, 4, 5, 6, 7, 8, 9, 10] rfl (zv_exit (fun h => h))
    refine zv_iconst (z := 1) dX10_world_201 ?_
    refine zv_goto (tgt := 206) dX10_world_202 (by decide) ?_
    exact zv_sub (L' := [(16, iv 0), (13, iv x32), (14, iv x33), (0, rn w l0), (3, iv l3), (5, iv l5), (8, iv l8), (9, iv l9), (10, iv l10), (11, iv l11), (12, rn w l12)]) [0, 1, 2, 3, 4, 5, 6, 7, 8, 9, 10] rfl (zv_exit (fun h => h))
  refine zv_istore_p (L' := [(17, iv x37), (16, iv 0), (13, iv x32), (14, iv x33), (0, rn w l0), (3, iv l3), (5, iv l5), (8, iv l8), (9, iv l9), (10, iv l10), (11, iv l11), (12, rn w l12)]) dX10_world_206 (by decide) rfl ?_
  refine zv_iload dX10_world_208 2 rfl ?_
  refine zv_joinS1 (fun r => r) 223 (fun x40 => [(14, iv x40), (0, rn w l0), (3, iv l3), (5, iv l5), (8, iv l8), (9, iv l9), (10, iv l10), (11, iv l11), (12, rn w l12)]) (fun x40 => []) (fun x40 => M36) ?_ (fun x40 => ?_)
  · refine zv_if_ne (tgt := 223) dX10_world_210 (by decide) ?_ ?_
    · exact zv_sub (L' := [(14, iv x33), (0, rn w l0), (3, iv l3), (5, iv l5), (8, iv l8), (9, iv l9), (10, iv l10), (11, iv l11), (12, rn w l12)]) [3, 4, 5, 6, 7, 8, 9, 10, 11] rfl (zv_exit (fun h => h))
    refine zv_iload dX10_world_213 1 rfl ?_
    refine zv_if_eq (tgt := 227) dX10_world_215 (by decide) ?_ ?_
    · refine zv_iconst (z := 0) dX10_world_227 ?_
      refine zv_istore_p (L' := [(13, iv 0), (17, iv x37), (16, iv 0), (14, iv x33), (0, rn w l0), (3, iv l3), (5, iv l5), (8, iv l8), (9, iv l9), (10, iv l10), (11, iv l11), (12, rn w l12)]) dX10_world_228 (by decide) rfl ?_
      refine zv_iinc dX10_world_230 3 rfl (fun x38 => [(14, iv x38), (13, iv 0), (17, iv x37), (16, iv 0), (0, rn w l0), (3, iv l3), (5, iv l5), (8, iv l8), (9, iv l9), (10, iv l10), (11, iv l11), (12, rn w l12)]) (by decide) (fun _ => rfl) (fun x38 => ?_)
      refine zv_goto (tgt := 153) dX10_world_233 (by decide) ?_
      exact zv_sub (L' := [(13, iv 0), (14, iv x38), (0, rn w l0), (3, iv l3), (5, iv l5), (8, iv l8), (9, iv l9), (10, iv l10), (11, iv l11), (12, rn w l12)]) [1, 0, 4, 5, 6, 7, 8, 9, 10, 11] rfl (zv_exit (fun h => h))
    refine zv_iload dX10_world_218 0 rfl ?_
    refine zv_if_eq (tgt := 227) dX10_world_220 (by decide) ?_ ?_
    · refine zv_iconst (z := 0) dX10_world_227 ?_
      refine zv_istore_p (L' := [(13, iv 0), (17, iv x37), (16, iv 0), (14, iv x33), (0, rn w l0), (3, iv l3), (5, iv l5), (8, iv l8), (9, iv l9), (10, iv l10), (11, iv l11), (12, rn w l12)]) dX10_world_228 (by decide) rfl ?_
      refine zv_iinc dX10_world_230 3 rfl (fun x39 => [(14, iv x39), (13, iv 0), (17, iv x37), (16, iv 0), (0, rn w l0), (3, iv l3), (5, iv l5), (8, iv l8), (9, iv l9), (10, iv l10), (11, iv l11), (12, rn w l12)]) (by decide) (fun _ => rfl) (fun x39 => ?_)
      refine zv_goto (tgt := 153) dX10_world_233 (by decide) ?_
      exact zv_sub (L' := [(13, iv 0), (14, iv x39), (0, rn w l0), (3, iv l3), (5, iv l5), (8, iv l8), (9, iv l9), (10, iv l10), (11, iv l11), (12, rn w l12)]) [1, 0, 4, 5, 6, 7, 8, 9, 10, 11] rfl (zv_exit (fun h => h))
    exact zv_sub (L' := [(14, iv x33), (0, rn w l0), (3, iv l3), (5, iv l5), (8, iv l8), (9, iv l9), (10, iv l10), (11, iv l11), (12, rn w l12)]) [3, 4, 5, 6, 7, 8, 9, 10, 11] rfl (zv_exit (fun h => h))
  refine zv_iconst (z := 1) dX10_world_223 ?_
  refine zv_goto (tgt := 228) dX10_world_224 (by decide) ?_
  refine zv_istore_p (L' := [(13, iv 1), (14, iv x40), (0, rn w l0), (3, iv l3), (5, iv l5), (8, iv l8), (9, iv l9), (10, iv l10), (11, iv l11), (12, rn w l12)]) dX10_world_228 (by decide) rfl ?_
  refine zv_iinc dX10_world_230 1 rfl (fun x41 => [(14, iv x41), (13, iv 1), (0, rn w l0), (3, iv l3), (5, iv l5), (8, iv l8), (9, iv l9), (10, iv l10), (11, iv l11), (12, rn w l12)]) (by decide) (fun _ => rfl) (fun x41 => ?_)
  refine zv_goto (tgt := 153) dX10_world_233 (by decide) ?_
  exact zv_sub (L' := [(13, iv 1), (14, iv x41), (0, rn w l0), (3, iv l3), (5, iv l5), (8, iv l8), (9, iv l9), (10, iv l10), (11, iv l11), (12, rn w l12)]) [1, 0, 2, 3, 4, 5, 6, 7, 8, 9] rfl (zv_exit (fun h => h))
theorem vl_X10_world_242 {κ : zC} {w : zW} (hw : zWk w)  (l0 : Nat) (l5 : Int) (l12 : Nat) (l13 : Int) (g0 : ztag w.1 l0 = 11) (g12 : ztag w.1 l12 = 1)  (E : (Int × zM) → Prop) (hX : ∀ (u14 : Int) (M1 : zM), E (u14, M1) → zB cX10_world RX10 18 (some .int) κ w (1, 1, 6) 280 [(14, iv u14)] [] M1)  (y14 : Int) (y15 : Int) (M0 : zM) :
    zV cX10_world RX10 18 (some .int) κ w (1, 1, 6) 242 [(14, iv y14), (15, iv y15), (0, rn w l0), (5, iv l5), (12, rn w l12), (13, iv l13)] [] M0 (zw3 (fb_X10_world_242 w.1 l0 l5 l12 l13) zfu y14 y15 M0) E := by
  have hT := hw.1
  refine zv_loop3 (fun y14 y15 M0 => [(14, iv y14), (15, iv y15), (0, rn w l0), (5, iv l5), (12, rn w l12), (13, iv l13)]) (fun y14 y15 M0 => M0) (fun y14 y15 M0 => ?_) y14 y15 M0
  unfold fb_X10_world_242
  refine zv_iload dX10_world_242 1 rfl ?_
  refine zv_iload dX10_world_244 3 rfl ?_
  refine zv_icmp_ge (tgt := 280) dX10_world_246 (by decide) ?_ ?_
  · exact zv_sub (L' := [(14, iv y14)]) [0] rfl (zv_exit (fun h => hX _ _ h))
  refine zv_rload dX10_world_249 4 rfl ?_
  refine zv_bipush (z := 10) dX10_world_251 (by decide) ?_
  refine (zv_callVi [iv 10] (c_X0_next κ.2.1 hw l12 10 M0 g12) zmd_X0_next zwI_X0_next zwS_X0_next zwM_RX10_344 zcd_0 g12 rfl (by decide) rfl (Nat.le_of_ble_eq_true rfl) dX10_world_253 (fun M45 v44 _ => ?_))
  refine zv_rload_n dX10_world_256 2 rfl ?_
  refine zg_RX10_74 dX10_world_257 g0 (fun q46 h47 => ?_)
  refine zg_RX10_347 dX10_world_260 h47 ?_
  refine zv_icmp_ge (tgt := 274) dX10_world_263 (by decide) ?_ ?_
  · refine zv_iinc dX10_world_274 1 rfl (fun x48 => [(15, iv x48), (14, iv y14), (0, rn w l0), (5, iv l5), (12, rn w l12), (13, iv l13)]) (by decide) (fun _ => rfl) (fun x48 => ?_)
    refine zv_goto (tgt := 242) dX10_world_277 (by decide) ?_
    exact zv_sub (L' := [(14, iv y14), (15, iv x48), (0, rn w l0), (5, iv l5), (12, rn w l12), (13, iv l13)]) [1, 0, 2, 3, 4, 5] rfl (zv_exit (fun h => h))
  refine zv_iload dX10_world_266 5 rfl ?_
  refine zv_if_eq (tgt := 274) dX10_world_268 (by decide) ?_ ?_
  · refine zv_iinc dX10_world_274 1 rfl (fun x49 => [(15, iv x49), (14, iv y14), (0, rn w l0), (5, iv l5), (12, rn w l12), (13, iv l13)]) (by decide) (fun _ => rfl) (fun x49 => ?_)
    refine zv_goto (tgt := 242) dX10_world_277 (by decide) ?_
    exact zv_sub (L' := [(14, iv y14), (15, iv x49), (0, rn w l0), (5, iv l5), (12, rn w l12), (13, iv l13)]) [1, 0, 2, 3, 4, 5] rfl (zv_exit (fun h => h))
  refine zv_iinc dX10_world_271 0 rfl (fun x50 => [(14, iv x50), (15, iv y15), (0, rn w l0), (5, iv l5), (12, rn w l12), (13, iv l13)]) (by decide) (fun _ => rfl) (fun x50 => ?_)
  refine zv_iinc dX10_world_274 1 rfl (fun x51 => [(15, iv x51), (14, iv x50), (0, rn w l0), (5, iv l5), (12, rn w l12), (13, iv l13)]) (by decide) (fun _ => rfl) (fun x51 => ?_)
  refine zv_goto (tgt := 242) dX10_world_277 (by decide) ?_
  exact zv_sub (L' := [(14, iv x50), (15, iv x51), (0, rn w l0), (5, iv l5), (12, rn w l12), (13, iv l13)]) [1, 0, 2, 3, 4, 5] rfl (zv_exit (fun h => h))
set_option maxRecDepth 20000 in
theorem vr_X10_world {κ : zC} {w : zW} (hw : zWk w) (l0 : Nat) (l3 : Int) (l5 : Int) (l8 : Int) (l9 : Int) (l10 : Int) (l11 : Int) (l12 : Nat) (g0 : ztag w.1 l0 = 11) (g12 : ztag w.1 l12 = 1) (M0 : zM) (E : zM × Int → Prop) (hE : ∀ t, E t → zRt κ w (1, 1, 6) 1 t) : zV cX10_world RX10 18 (some .int) κ w (1, 1, 6) 147 [(0, rn w l0), (3, iv l3), (5, iv l5), (8, iv l8), (9, iv l9), (10, iv l10), (11, iv l11), (12, rn w l12)] [] M0 (fr_X10_world w.1 l0 l3 l5 l8 l9 l10 l11 l12 M0) E := by
  have hT := hw.1
  unfold fr_X10_world
  refine zv_iconst (z := 0) dX10_world_147 ?_
  refine zv_istore_p (L' := [(13, iv 0), (0, rn w l0), (3, iv l3), (5, iv l5), (8, iv l8), (9, iv l9), (10, iv l10), (11, iv l11), (12, rn w l12)]) dX10_world_148 (by decide) rfl ?_
  refine zv_iconst (z := 0) dX10_world_150 ?_
  refine zv_istore_p (L' := [(14, iv 0), (13, iv 0), (0, rn w l0), (3, iv l3), (5, iv l5), (8, iv l8), (9, iv l9), (10, iv l10), (11, iv l11), (12, rn w l12)]) dX10_world_151 (by decide) rfl ?_
  refine zv_join2 236 (fun x42 M43 => [(0, rn w l0), (5, iv l5), (12, rn w l12), (13, iv x42)]) (fun x42 M43 => []) (fun x42 M43 => M43) (zv_sub (L' := [(13, iv 0), (14, iv 0), (0, rn w l0), (3, iv l3), (5, iv l5), (8, iv l8), (9, iv l9), (10, iv l10), (11, iv l11), (12, rn w l12)]) [1, 0, 2, 3, 4, 5, 6, 7, 8, 9] rfl (vl_X10_world_153 hw l0 l3 l5 l8 l9 l10 l11 l12 g0 g12 _ (fun _ _ h => h) 0 0 M0)) (fun x42 M43 => ?_)
  refine zv_iconst (z := 0) dX10_world_236 ?_
  refine zv_istore_p (L' := [(14, iv 0), (0, rn w l0), (5, iv l5), (12, rn w l12), (13, iv x42)]) dX10_world_237 (by decide) rfl ?_
  refine zv_iconst (z := 0) dX10_world_239 ?_
  refine zv_istore_p (L' := [(15, iv 0), (14, iv 0), (0, rn w l0), (5, iv l5), (12, rn w l12), (13, iv x42)]) dX10_world_240 (by decide) rfl ?_
  refine zv_join2 280 (fun x52 M53 => [(14, iv x52)]) (fun x52 M53 => []) (fun x52 M53 => M53) (zv_sub (L' := [(14, iv 0), (15, iv 0), (0, rn w l0), (5, iv l5), (12, rn w l12), (13, iv x42)]) [1, 0, 2, 3, 4, 5] rfl (vl_X10_world_242 hw l0 l5 l12 x42 g0 g12 _ (fun _ _ h => h) 0 0 M43)) (fun x52 M53 => ?_)
  refine zv_iload dX10_world_280 0 rfl ?_
  exact zv_ret (fun h => hE _ h) (zv_iret dX10_world_282)
set_option maxRecDepth 20000 in
theorem c_X10_world (l : Launch) {w : zW} (hw : zWk w) {i : Nat} (hk : w.1 = zKn i) (hi : i ≤ 3) (p0 : Nat) (p1 : Int) (p2 : Int) (p3 : Int) (p4 : Int) (p5 : Int) (M0 : zM) (hp0 : ztag w.1 p0 = 11) : zCnN l yX10_world cX10_world 18 (some .int) 6 1 1 1 w [rn w p0, iv p1, iv p2, iv p3, iv p4, iv p5] M0 (f_X10_world w.1 p0 p1 p2 p3 p4 p5 M0) := by
  have hT := hw.1
  refine zCnN_of (own := RX10) (by decide) rfl hw (Nat.le_of_ble_eq_true rfl) [(0, rn w p0), (1, iv p1), (2, iv p2), (3, iv p3), (4, iv p4), (5, iv p5)] rfl ?_
  intro κ hl hcs hss
  subst hl
  unfold f_X10_world
  refine zv_iload_n dX10_world_0 1 rfl ?_
  refine zv_if_lt (tgt := 30) dX10_world_1 (by decide) ?_ ?_
  · refine zv_iconst (z := (-1)) dX10_world_30 ?_
    exact zv_ret (fun h => zRt_z h) (zv_iret dX10_world_31)
  refine zv_iload_n dX10_world_4 1 rfl ?_
  refine zv_ldcw (z := 999999999) dX10_world_5 zwK_RX10_329 (by decide) ?_
  refine zv_icmp_gt (tgt := 30) dX10_world_8 (by decide) ?_ ?_
  · refine zv_iconst (z := (-1)) dX10_world_30 ?_
    exact zv_ret (fun h => zRt_z h) (zv_iret dX10_world_31)
  refine zv_iload_n dX10_world_11 2 rfl ?_
  refine zv_pc (zv_callSi [iv p2] (c_X10_isAge κ.2.1 hw p2 M0 ) zmd_X10_isAge zwT_X10_isAge zwM_RX10_197 rfl (by decide) rfl (Nat.le_of_ble_eq_true rfl) dX10_world_12 (fun mh2 v1 h2 => ?_))
  obtain rfl := zpuE h2
  refine zv_if_eq (tgt := 30) dX10_world_15 (by decide) ?_ ?_
  · refine zv_iconst (z := (-1)) dX10_world_30 ?_
    exact zv_ret (fun h => zRt_z h) (zv_iret dX10_world_31)
  refine zv_iload_n dX10_world_18 3 rfl ?_
  refine zv_iconst (z := 1) dX10_world_19 ?_
  refine zv_icmp_lt (tgt := 30) dX10_world_20 (by decide) ?_ ?_
  · refine zv_iconst (z := (-1)) dX10_world_30 ?_
    exact zv_ret (fun h => zRt_z h) (zv_iret dX10_world_31)
  refine zv_iload_n dX10_world_23 3 rfl ?_
  refine zv_sipush (z := 200) dX10_world_24 (by decide) ?_
  refine zv_icmp_le (tgt := 32) dX10_world_27 (by decide) ?_ ?_
  · refine zv_iload dX10_world_32 4 rfl ?_
    refine zv_pc (zv_callSi [iv p4] (c_X10_isCell κ.2.1 hw p4 M0 ) zmd_X10_isCell zwT_X10_isCell zwM_RX10_92 rfl (by decide) rfl (Nat.le_of_ble_eq_true rfl) dX10_world_34 (fun mh4 v3 h4 => ?_))
    obtain rfl := zpuE h4
    refine zv_if_eq (tgt := 52) dX10_world_37 (by decide) ?_ ?_
    · refine zv_iconst (z := (-1)) dX10_world_52 ?_
      exact zv_ret (fun h => zRt_z h) (zv_iret dX10_world_53)
    refine zv_iload dX10_world_40 5 rfl ?_
    refine zv_if_lt (tgt := 52) dX10_world_42 (by decide) ?_ ?_
    · refine zv_iconst (z := (-1)) dX10_world_52 ?_
      exact zv_ret (fun h => zRt_z h) (zv_iret dX10_world_53)
    refine zv_iload dX10_world_45 5 rfl ?_
    refine zv_bipush (z := 99) dX10_world_47 (by decide) ?_
    refine zv_icmp_le (tgt := 54) dX10_world_49 (by decide) ?_ ?_
    · refine zv_rload_n dX10_world_54 0 rfl ?_
      refine zv_iload_n dX10_world_55 2 rfl ?_
      refine (zv_callVr [iv p2] (c_X10_viewAt κ.2.1 hw p0 p2 M0 hp0) zmd_X10_viewAt zwI_X10_viewAt zwS_X10_viewAt zwM_RX10_236 zcd_10 hp0 rfl (by decide) rfl (Nat.le_of_ble_eq_true rfl) dX10_world_56 (fun M6 v5 _ => ?_))
      refine zv_gd (fun h7 => ?_)
      refine zv_rstore_p (L' := [(6, rn w (v5.toNat)), (0, rn w p0), (1, iv p1), (2, iv p2), (3, iv p3), (4, iv p4), (5, iv p5)]) dX10_world_59 (by decide) rfl ?_
      refine zv_rload_n dX10_world_61 1 rfl ?_
      refine zv_iload_n dX10_world_62 3 rfl ?_
      refine (zv_callVi [iv p2] (c_X10_spanKnown κ.2.1 hw p0 p2 M6 hp0) zmd_X10_spanKnown zwI_X10_spanKnown zwS_X10_spanKnown zwM_RX10_310 zcd_10 hp0 rfl (by decide) rfl (Nat.le_of_ble_eq_true rfl) dX10_world_63 (fun M9 v8 _ => ?_))
      refine zv_istore_p (L' := [(7, iv v8), (6, rn w (v5.toNat)), (0, rn w p0), (1, iv p1), (2, iv p2), (3, iv p3), (4, iv p4), (5, iv p5)]) dX10_world_66 (by decide) rfl ?_
      refine zv_rload_n dX10_world_68 2 rfl ?_
      refine zg_RX10_42 dX10_world_69 hp0 ?_
      refine zg_RX10_330 dX10_world_72 (zta_10_5 hT hp0) ?_
      refine zv_iload dX10_world_75 0 rfl ?_
      refine zv_iald dX10_world_77 (zta_4_0 hT (zta_10_5 hT hp0)) (ztl_4_0 hT (zta_10_5 hT hp0)) (by decide) ?_
      refine zv_istore dX10_world_78 (fun x10 => [(8, iv x10), (7, iv v8), (6, rn w (v5.toNat)), (0, rn w p0), (1, iv p1), (2, iv p2), (3, iv p3), (4, iv p4), (5, iv p5)]) (by decide) (fun _ => rfl) (fun x10 => ?_)
      refine zv_iload dX10_world_80 0 rfl ?_
      refine zv_if_ne (tgt := 87) dX10_world_82 (by decide) ?_ ?_
      · refine zv_rload_n dX10_world_87 3 rfl ?_
        refine zg_RX10_42 dX10_world_88 hp0 ?_
        refine zv_iload dX10_world_91 1 rfl ?_
        refine zv_iload dX10_world_93 7 rfl ?_
        refine zv_pc (zv_callVi [iv v8, iv p4] (c_X4_before κ.2.1 hw (zfr w.1 p0 5) v8 p4 M9 (zta_10_5 hT hp0)) zmd_X4_before zwI_X4_before zwS_X4_before zwM_RX10_333 zcd_4 (zta_10_5 hT hp0) rfl (by decide) rfl (Nat.le_of_ble_eq_true rfl) dX10_world_95 (fun mh12 v11 h12 => ?_))
        obtain rfl := zpuE h12
        refine zv_istore_p (L' := [(9, iv v11), (8, iv x10), (7, iv v8), (6, rn w (v5.toNat)), (0, rn w p0), (1, iv p1), (2, iv p2), (3, iv p3), (4, iv p4), (5, iv p5)]) dX10_world_98 (by decide) rfl ?_
        refine zv_iload dX10_world_100 0 rfl ?_
        refine zv_rload_n dX10_world_102 4 rfl ?_
        refine zg_RX10_42 dX10_world_103 hp0 ?_
        refine zv_iload dX10_world_106 2 rfl ?_
        refine zv_iload dX10_world_108 8 rfl ?_
        refine zv_pc (zv_callVi [iv v8, iv p4] (c_X4_of κ.2.1 hw (zfr w.1 p0 5) v8 p4 M9 (zta_10_5 hT hp0)) zmd_X4_of zwI_X4_of zwS_X4_of zwM_RX10_336 zcd_4 (zta_10_5 hT hp0) rfl (by decide) rfl (Nat.le_of_ble_eq_true rfl) dX10_world_110 (fun mh14 v13 h14 => ?_))
        obtain rfl := zpuE h14
        refine zv_iadd dX10_world_113 ?_
        refine zv_istore dX10_world_114 (fun x15 => [(10, iv x15), (9, iv v11), (8, iv x10), (7, iv v8), (6, rn w (v5.toNat)), (0, rn w p0), (1, iv p1), (2, iv p2), (3, iv p3), (4, iv p4), (5, iv p5)]) (by decide) (fun _ => rfl) (fun x15 => ?_)
        refine zv_rload_n dX10_world_116 5 rfl ?_
        refine zg_RX10_74 dX10_world_117 hp0 (fun q16 h17 => ?_)
        refine zv_iconst (z := 4) dX10_world_120 ?_
        refine zv_rload dX10_world_121 4 rfl ?_
        refine zv_iload dX10_world_123 9 rfl ?_
        refine zv_iload_n dX10_world_125 7 rfl ?_
        refine (zv_callVr [iv p4, iv p2] (c_X8_wordsOf κ.2.1 hw (v5.toNat) p4 p2 M9 h7) zmd_X8_wordsOf zwI_X8_wordsOf zwS_X8_wordsOf zwM_RX10_259 zcd_8 h7 rfl (by decide) rfl (Nat.le_of_ble_eq_true rfl) dX10_world_126 (fun M19 v18 _ => ?_))
        refine zv_gd (fun h20 => ?_)
        refine zv_bipush (z := 100) dX10_world_129 (by decide) ?_
        refine zv_pc (zv_callVi [iv 4, rn w (v18.toNat), iv 100] (c_X3_first κ.2.1 hw q16 4 (v18.toNat) 100 M19 h17 h20.1 h20.2) zmd_X3_first zwI_X3_first zwS_X3_first zwM_RX10_263 zcd_3 h17 rfl (by decide) rfl (Nat.le_of_ble_eq_true rfl) dX10_world_131 (fun mh22 v21 h22 => ?_))
        obtain rfl := zpuE h22
        refine zv_istore_p (L' := [(11, iv v21), (10, iv x15), (9, iv v11), (8, iv x10), (7, iv v8), (6, rn w (v5.toNat)), (0, rn w p0), (1, iv p1), (2, iv p2), (3, iv p3), (4, iv p4), (5, iv p5)]) dX10_world_134 (by decide) rfl ?_
        refine zv_gd (fun hN => ?_)
        refine zv_sub (L' := [(0, rn w p0), (1, iv p1), (3, iv p3), (5, iv p5), (8, iv x10), (9, iv v11), (10, iv x15), (11, iv v21)]) [6, 7, 9, 11, 3, 2, 1, 0] rfl ?_
        have hrr : 177 ≤ zfx M19 ∧ zfx M19 ≤ 180 := zfx_r
        generalize zfx M19 = r at *
        have hr0 : ztag w.1 r = 0 := by rw [hk]; unfold ztag zKn; rw [if_neg (by omega)]
        refine zv_newD (idx := 339) (r := r) hk hi hr0 (by omega) (by omega) hN zwL_RX10_339 dX10_world_136 hcs hss (fun a hw' => ?_)
        have hne : p0 ≠ r := fun e => by rw [e, hr0] at hp0; cases hp0
        have e0 : rn w p0 = rn (zxt w r (1, 0, fun _ => 0) a) p0 := by unfold rn zxt; simp [hne]
        have er : Value.ref a = rn (zxt w r (1, 0, fun _ => 0) a) r := by unfold rn zxt; simp
        have t1 : ztag (zxt w r (1, 0, fun _ => 0) a).1 p0 = 11 := by rw [← hp0]; unfold ztag zxt; simp [hne]
        have t2 : ztag (zxt w r (1, 0, fun _ => 0) a).1 r = 1 := by unfold ztag zxt; simp
        have t3 : zkx w.1 r (1, 0, fun _ => 0) = (zxt w r (1, 0, fun _ => 0) a).1 := rfl
        have hdrop : ∀ (Mr : zM) (vr : Int), zNr Mr r → zRt κ w (1, 1, 6) 1 (zrs M19 Mr r, vr) → zRt κ (zxt w r (1, 0, fun _ => 0) a) (1, 1, 6) 1 (Mr, vr) := fun Mr vr hn h => zRt_drop hk hi hr0 hn h
        rw [e0, er, t3]
        generalize zxt w r (1, 0, fun _ => 0) a = w' at *
        refine zv_dup dX10_world_139 rfl ?_
        refine zv_iload_n dX10_world_140 1 rfl ?_
        refine zv_i2l dX10_world_141 ?_
        refine zv_pre (oc := some (zst (zst M19 r 0 0) r 0 p1, (0 : Int))) (X := fun M' _ => zbd (fr_X10_world w'.1 p0 p3 p5 x10 v11 x15 v21 r M') (fun Mr vr => zgd (zNr Mr r) (some (zrs M19 Mr r, vr)))) ?_ (by rw [zst_st]; rfl)
        refine zv_callIv [jv p1] (c_X0_init κ.2.1 hw' r p1 (zst M19 r 0 0) t2) zmd_X0_init zwI_X0_init rfl zwM_RX10_341 rfl (by decide) rfl (Nat.le_of_ble_eq_true rfl) dX10_world_142 (fun M' v hv => ?_)
        cases hv
        refine zv_rstore_p (L' := [(12, rn w' r), (0, rn w' p0), (1, iv p1), (3, iv p3), (5, iv p5), (8, iv x10), (9, iv v11), (10, iv x15), (11, iv v21)]) dX10_world_145 (by decide) rfl ?_
        refine zv_sub (L' := [(0, rn w' p0), (3, iv p3), (5, iv p5), (8, iv x10), (9, iv v11), (10, iv x15), (11, iv v21), (12, rn w' r)]) [1, 3, 4, 5, 6, 7, 8, 0] rfl ?_
        rw [zst_st]
        intro t ht hE
        obtain ⟨Mr, vr, e1, e2, e3⟩ := zbd_sg ht
        exact vr_X10_world hw' p0 p3 p5 x10 v11 x15 v21 r t1 t2 _ (fun u => u = (Mr, vr)) (fun u hu => by rw [hu]; exact hdrop Mr vr e2 (by have e4 : (zrs M19 Mr r, vr) = t := e3; rw [e4]; exact hE)) (Mr, vr) e1 rfl
      refine zv_iconst (z := (-1)) dX10_world_85 ?_
      exact zv_ret (fun h => zRt_z h) (zv_iret dX10_world_86)
    refine zv_iconst (z := (-1)) dX10_world_52 ?_
    exact zv_ret (fun h => zRt_z h) (zv_iret dX10_world_53)
  refine zv_iconst (z := (-1)) dX10_world_30 ?_
  exact zv_ret (fun h => zRt_z h) (zv_iret dX10_world_31)

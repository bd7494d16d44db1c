def f_X0_next (k : zK)  (p0 : Nat) (p1 : Int) (M0 : zM) : Option (zM × Int) :=
  zlt (zst M0 p0 0 (((M0 p0 0) * 6364136223846793005) + 1442695040888963407)) (fun M1 => zbr p1 0 (p1 ≤ 0) (some (M1, 0)) (zgd (zr p1) (zgd ((0 ≤ zo_lushr (M1 p0 0) 33 ∧ zo_lushr (M1 p0 0) 33 ≤ 9223372036854775807) ∧ 0 < p1 ∧ p1 ≤ 9223372036854775807) (some (M1, (zo_lushr (M1 p0 0) 33) % p1)))))
theorem c_X0_next (l : Launch) {w : zW} (hw : zWk w)  (p0 : Nat) (p1 : Int) (M0 : zM) (hp0 : ztag w.1 p0 = 1) : zCn l yX0_next cX0_next 2 (some .int) (0) 1 w [rn w p0, iv p1] M0 (f_X0_next w.1 p0 p1 M0) := by
  have hT := hw.1
  refine zCn_of (own := RX0) (by decide) rfl hw (Nat.le_of_ble_eq_true rfl) [(0, rn w p0), (1, iv p1)] rfl ?_
  intro κ hl
  subst hl
  unfold f_X0_next
  refine zv_rload_n dX0_next_0 0 rfl ?_
  refine zv_rload_n dX0_next_1 0 rfl ?_
  refine zg_RX0_7 dX0_next_2 hp0 ?_
  refine zv_ldc2 (z := 6364136223846793005) dX0_next_5 zwK_RX0_13 (by decide) ?_
  refine zv_lmul dX0_next_8 ?_
  refine zv_ldc2 (z := 1442695040888963407) dX0_next_9 zwK_RX0_15 (by decide) ?_
  refine zv_ladd dX0_next_12 ?_
  refine zp_RX0_7 dX0_next_13 hp0 (fun M1 => ?_)
  refine zv_iload_n dX0_next_16 1 rfl ?_
  refine zv_if_le (tgt := 34) dX0_next_17 (by decide) ?_ ?_
  · refine zv_iconst (z := 0) dX0_next_34 ?_
    exact zv_ret (fun h => h) (zv_iret dX0_next_35)
  refine zv_rload_n dX0_next_20 0 rfl ?_
  refine zg_RX0_7 dX0_next_21 hp0 ?_
  refine zv_bipush (z := 33) dX0_next_24 (by decide) ?_
  refine zv_lushr dX0_next_26 ?_
  refine zv_iload_n dX0_next_27 1 rfl ?_
  refine zv_i2l dX0_next_28 ?_
  refine zv_lrem dX0_next_29 ?_
  refine zv_l2i dX0_next_30 ?_
  refine zv_goto (tgt := 35) dX0_next_31 (by decide) ?_
  exact zv_ret (fun h => h) (zv_iret dX0_next_35)
def f_X10_isAge (k : zK)  (p0 : Int) (M0 : zM) : Option Int :=
  zbr p0 0 (p0 < 0) (some 0) (zbr p0 100 (100 ≤ p0) (some 0) (some 1))
theorem c_X10_isAge (l : Launch) {w : zW} (hw : zWk w)  (p0 : Int) (M0 : zM)  : zCn l yX10_isAge cX10_isAge 1 (some .boolean) (0) 1 w [iv p0] M0 ((f_X10_isAge w.1 p0 M0).map fun v => (M0, v)) := by
  have hT := hw.1
  refine zCn_ofP (own := RX10) (by decide) rfl hw (Nat.le_of_ble_eq_true rfl) [(0, iv p0)] rfl ?_
  intro κ hl
  subst hl
  unfold f_X10_isAge
  refine zv_iload_n dX10_isAge_0 0 rfl ?_
  refine zv_if_lt (tgt := 14) dX10_isAge_1 (by decide) ?_ ?_
  · refine zv_iconst (z := 0) dX10_isAge_14 ?_
    exact zv_ret (fun h => h) (zv_zrB (by decide) dX10_isAge_15)
  refine zv_iload_n dX10_isAge_4 0 rfl ?_
  refine zv_bipush (z := 100) dX10_isAge_5 (by decide) ?_
  refine zv_icmp_ge (tgt := 14) dX10_isAge_7 (by decide) ?_ ?_
  · refine zv_iconst (z := 0) dX10_isAge_14 ?_
    exact zv_ret (fun h => h) (zv_zrB (by decide) dX10_isAge_15)
  refine zv_iconst (z := 1) dX10_isAge_10 ?_
  refine zv_goto (tgt := 15) dX10_isAge_11 (by decide) ?_
  exact zv_ret (fun h => h) (zv_zrB (by decide) dX10_isAge_15)
def f_X10_isCell (k : zK)  (p0 : Int) (M0 : zM) : Option Int :=
  zbr p0 0 (p0 < 0) (some 0) (zbr p0 256 (256 ≤ p0) (some 0) (some 1))
theorem c_X10_isCell (l : Launch) {w : zW} (hw : zWk w)  (p0 : Int) (M0 : zM)  : zCn l yX10_isCell cX10_isCell 1 (some .boolean) (0) 1 w [iv p0] M0 ((f_X10_isCell w.1 p0 M0).map fun v => (M0, v)) := by
  have hT := hw.1
  refine zCn_ofP (own := RX10) (by decide) rfl hw (Nat.le_of_ble_eq_true rfl) [(0, iv p0)] rfl ?_
  intro κ hl
  subst hl
  unfold f_X10_isCell
  refine zv_iload_n dX10_isCell_0 0 rfl ?_
  refine zv_if_lt (tgt := 15) dX10_isCell_1 (by decide) ?_ ?_
  · refine zv_iconst (z := 0) dX10_isCell_15 ?_
    exact zv_ret (fun h => h) (zv_zrB (by decide) dX10_isCell_16)
  refine zv_iload_n dX10_isCell_4 0 rfl ?_
  refine zv_sipush (z := 256) dX10_isCell_5 (by decide) ?_
  refine zv_icmp_ge (tgt := 15) dX10_isCell_8 (by decide) ?_ ?_
  · refine zv_iconst (z := 0) dX10_isCell_15 ?_
    exact zv_ret (fun h => h) (zv_zrB (by decide) dX10_isCell_16)
  refine zv_iconst (z := 1) dX10_isCell_11 ?_
  refine zv_goto (tgt := 16) dX10_isCell_12 (by decide) ?_
  exact zv_ret (fun h => h) (zv_zrB (by decide) dX10_isCell_16)
def fb_X2_countHigherRound_68 (k : zK)  (l0 : Nat) (l1 : Int) (l2 : Int) (l3 : Int) (l4 : Int) (l6 : Int) (M0 : zM) (y5 : Int) (y7 : Int) : Option ((Int × Int) ⊕ (Int)) :=
  zbr y7 (l6 + l3) (l6 + l3 < y7) (some (.inr y5)) (zgd (0 ≤ y7 ∧ y7 < 256) (zbr (M0 (zfr k l0 3) y7.toNat) l4 (M0 (zfr k l0 3) y7.toNat ≤ l4) (zlt (y5 + 0) (fun x9 => zlt (y7 + 1) (fun x10 => some (.inl (x9, x10))))) (zlt (y5 + 1) (fun x11 => zlt (y7 + 1) (fun x12 => some (.inl (x11, x12)))))))
def fb_X2_countHigherRound_45 (k : zK)  (l0 : Nat) (l1 : Int) (l2 : Int) (l3 : Int) (l4 : Int) (M0 : zM) (y5 : Int) (y6 : Int) : Option ((Int × Int) ⊕ (Int)) :=
  zbr y6 (l1 + 16) (l1 + 16 < y6) (some (.inr y5)) (zb1 (f_X10_isCell k y6 M0) (fun v5 => zbr v5 0 (v5 = 0) (zlt (y6 + 16) (fun x7 => some (.inl (y5, x7)))) (zlt (y6 - l2) (fun x8 => zb1 (zw2 (fb_X2_countHigherRound_68 k l0 l1 l2 l3 l4 y6 M0) zfu y5 x8) (fun x13 => zlt (y6 + 16) (fun x14 => some (.inl (x13, x14))))))))
def f_X2_countHigherRound (k : zK)  (p0 : Nat) (p1 : Int) (M0 : zM) : Option Int :=
  zgd (0 ≤ p1 ∧ p1 ≤ 2147483647) (zb1 (zbr (p1 % 16) 0 (¬ p1 % 16 = 0) (some (1)) (some (0))) (fun x1 => zgd (0 ≤ p1 ∧ p1 ≤ 2147483647) (zb1 (zbr (p1 % 16) 15 (¬ p1 % 16 = 15) (some (1)) (some (0))) (fun x2 => zgd (0 ≤ p1 ∧ p1 < 256) (zlt (M0 (zfr k p0 3) p1.toNat) (fun x3 => zlt (p1 - 16) (fun x4 => zb1 (zw2 (fb_X2_countHigherRound_45 k p0 p1 x1 x2 x3 M0) zfu 0 x4) (fun x15 => some x15))))))))
theorem vl_X2_countHigherRound_68 {κ : zC} {w : zW} (hw : zWk w)  (l0 : Nat) (l1 : Int) (l2 : Int) (l3 : Int) (l4 : Int) (l6 : Int) (g0 : ztag w.1 l0 = 3) (M0 : zM) (E : (Int) → Prop) (hX : ∀ (u5 : Int), E u5 → zB cX2_countHigherRound RX2 8 (some .int) κ w (0, 0, 1) 105 [(0, rn w l0), (1, iv l1), (2, iv l2), (3, iv l3), (4, iv l4), (5, iv u5), (6, iv l6)] [] M0)  (y5 : Int) (y7 : Int) :
    zV cX2_countHigherRound RX2 8 (some .int) κ w (0, 0, 1) 68 [(5, iv y5), (7, iv y7), (0, rn w l0), (1, iv l1), (2, iv l2), (3, iv l3), (4, iv l4), (6, iv l6)] [] M0 (zw2 (fb_X2_countHigherRound_68 w.1 l0 l1 l2 l3 l4 l6 M0) zfu y5 y7) E := by
  have hT := hw.1
  refine zv_loop2 (fun y5 y7 => [(5, iv y5), (7, iv y7), (0, rn w l0), (1, iv l1), (2, iv l2), (3, iv l3), (4, iv l4), (6, iv l6)]) (fun y5 y7 => M0) (fun y5 y7 => ?_) y5 y7
  unfold fb_X2_countHigherRound_68
  refine zv_iload dX2_countHigherRound_68 1 rfl ?_
  refine zv_iload dX2_countHigherRound_70 7 rfl ?_
  refine zv_iload_n dX2_countHigherRound_72 5 rfl ?_
  refine zv_iadd dX2_countHigherRound_73 ?_
  refine zv_icmp_gt (tgt := 105) dX2_countHigherRound_74 (by decide) ?_ ?_
  · exact zv_sub (L' := [(0, rn w l0), (1, iv l1), (2, iv l2), (3, iv l3), (4, iv l4), (5, iv y5), (6, iv l6)]) [2, 3, 4, 5, 6, 0, 7] rfl (zv_exit (fun h => hX _ h))
  refine zv_iload dX2_countHigherRound_77 0 rfl ?_
  refine zv_rload_n dX2_countHigherRound_79 2 rfl ?_
  refine zg_RX2_21 dX2_countHigherRound_80 g0 ?_
  refine zv_iload dX2_countHigherRound_83 1 rfl ?_
  refine zv_iald dX2_countHigherRound_85 (zta_2_3 hT g0) (ztl_2_3 hT g0) (by decide) ?_
  refine zv_iload dX2_countHigherRound_86 6 rfl ?_
  refine zv_icmp_le (tgt := 95) dX2_countHigherRound_88 (by decide) ?_ ?_
  · refine zv_iconst (z := 0) dX2_countHigherRound_95 ?_
    refine zv_iadd dX2_countHigherRound_96 ?_
    refine zv_istore dX2_countHigherRound_97 (fun x9 => [(5, iv x9), (7, iv y7), (0, rn w l0), (1, iv l1), (2, iv l2), (3, iv l3), (4, iv l4), (6, iv l6)]) (by decide) (fun _ => rfl) (fun x9 => ?_)
    refine zv_iinc dX2_countHigherRound_99 1 rfl (fun x10 => [(7, iv x10), (5, iv x9), (0, rn w l0), (1, iv l1), (2, iv l2), (3, iv l3), (4, iv l4), (6, iv l6)]) (by decide) (fun _ => rfl) (fun x10 => ?_)
    refine zv_goto (tgt := 68) dX2_countHigherRound_102 (by decide) ?_
    exact zv_sub (L' := [(5, iv x9), (7, iv x10), (0, rn w l0), (1, iv l1), (2, iv l2), (3, iv l3), (4, iv l4), (6, iv l6)]) [1, 0, 2, 3, 4, 5, 6, 7] rfl (zv_exit (fun h => h))
  refine zv_iconst (z := 1) dX2_countHigherRound_91 ?_
  refine zv_goto (tgt := 96) dX2_countHigherRound_92 (by decide) ?_
  refine zv_iadd dX2_countHigherRound_96 ?_
  refine zv_istore dX2_countHigherRound_97 (fun x11 => [(5, iv x11), (7, iv y7), (0, rn w l0), (1, iv l1), (2, iv l2), (3, iv l3), (4, iv l4), (6, iv l6)]) (by decide) (fun _ => rfl) (fun x11 => ?_)
  refine zv_iinc dX2_countHigherRound_99 1 rfl (fun x12 => [(7, iv x12), (5, iv x11), (0, rn w l0), (1, iv l1), (2, iv l2), (3, iv l3), (4, iv l4), (6, iv l6)]) (by decide) (fun _ => rfl) (fun x12 => ?_)
  refine zv_goto (tgt := 68) dX2_countHigherRound_102 (by decide) ?_
  exact zv_sub (L' := [(5, iv x11), (7, iv x12), (0, rn w l0), (1, iv l1), (2, iv l2), (3, iv l3), (4, iv l4), (6, iv l6)]) [1, 0, 2, 3, 4, 5, 6, 7] rfl (zv_exit (fun h => h))
theorem vl_X2_countHigherRound_45 {κ : zC} {w : zW} (hw : zWk w)  (l0 : Nat) (l1 : Int) (l2 : Int) (l3 : Int) (l4 : Int) (g0 : ztag w.1 l0 = 3) (M0 : zM) (E : (Int) → Prop) (hX : ∀ (u5 : Int), E u5 → zB cX2_countHigherRound RX2 8 (some .int) κ w (0, 0, 1) 111 [(5, iv u5)] [] M0)  (y5 : Int) (y6 : Int) :
    zV cX2_countHigherRound RX2 8 (some .int) κ w (0, 0, 1) 45 [(5, iv y5), (6, iv y6), (0, rn w l0), (1, iv l1), (2, iv l2), (3, iv l3), (4, iv l4)] [] M0 (zw2 (fb_X2_countHigherRound_45 w.1 l0 l1 l2 l3 l4 M0) zfu y5 y6) E := by
  have hT := hw.1
  refine zv_loop2 (fun y5 y6 => [(5, iv y5), (6, iv y6), (0, rn w l0), (1, iv l1), (2, iv l2), (3, iv l3), (4, iv l4)]) (fun y5 y6 => M0) (fun y5 y6 => ?_) y5 y6
  unfold fb_X2_countHigherRound_45
  refine zv_iload dX2_countHigherRound_45 1 rfl ?_
  refine zv_iload_n dX2_countHigherRound_47 3 rfl ?_
  refine zv_bipush (z := 16) dX2_countHigherRound_48 (by decide) ?_
  refine zv_iadd dX2_countHigherRound_50 ?_
  refine zv_icmp_gt (tgt := 111) dX2_countHigherRound_51 (by decide) ?_ ?_
  · exact zv_sub (L' := [(5, iv y5)]) [0] rfl (zv_exit (fun h => hX _ h))
  refine zv_iload dX2_countHigherRound_54 1 rfl ?_
  refine zv_pc (zv_callNi [iv y6] (c_X10_isCell κ.2.1 hw y6 M0 ) zmd_X10_isCell zwT_X10_isCell zwQ_RX2_77 rfl (by decide) rfl (Nat.le_of_ble_eq_true rfl) dX2_countHigherRound_56 (fun mh6 v5 h6 => ?_))
  obtain rfl := zpuE h6
  refine zv_if_eq (tgt := 105) dX2_countHigherRound_59 (by decide) ?_ ?_
  · refine zv_iinc dX2_countHigherRound_105 1 rfl (fun x7 => [(6, iv x7), (5, iv y5), (0, rn w l0), (1, iv l1), (2, iv l2), (3, iv l3), (4, iv l4)]) (by decide) (fun _ => rfl) (fun x7 => ?_)
    refine zv_goto (tgt := 45) dX2_countHigherRound_108 (by decide) ?_
    exact zv_sub (L' := [(5, iv y5), (6, iv x7), (0, rn w l0), (1, iv l1), (2, iv l2), (3, iv l3), (4, iv l4)]) [1, 0, 2, 3, 4, 5, 6] rfl (zv_exit (fun h => h))
  refine zv_iload dX2_countHigherRound_62 1 rfl ?_
  refine zv_iload_n dX2_countHigherRound_64 4 rfl ?_
  refine zv_isub dX2_countHigherRound_65 ?_
  refine zv_istore dX2_countHigherRound_66 (fun x8 => [(7, iv x8), (5, iv y5), (6, iv y6), (0, rn w l0), (1, iv l1), (2, iv l2), (3, iv l3), (4, iv l4)]) (by decide) (fun _ => rfl) (fun x8 => ?_)
  refine zv_join1 105 (fun x13 => [(0, rn w l0), (1, iv l1), (2, iv l2), (3, iv l3), (4, iv l4), (5, iv x13), (6, iv y6)]) (fun x13 => []) (fun x13 => M0) (zv_sub (L' := [(5, iv y5), (7, iv x8), (0, rn w l0), (1, iv l1), (2, iv l2), (3, iv l3), (4, iv l4), (6, iv y6)]) [1, 0, 3, 4, 5, 6, 7, 2] rfl (vl_X2_countHigherRound_68 hw l0 l1 l2 l3 l4 y6 g0 M0 _ (fun _ h => h) y5 x8)) (fun x13 => ?_)
  refine zv_iinc dX2_countHigherRound_105 6 rfl (fun x14 => [(6, iv x14), (0, rn w l0), (1, iv l1), (2, iv l2), (3, iv l3), (4, iv l4), (5, iv x13)]) (by decide) (fun _ => rfl) (fun x14 => ?_)
  refine zv_goto (tgt := 45) dX2_countHigherRound_108 (by decide) ?_
  exact zv_sub (L' := [(5, iv x13), (6, iv x14), (0, rn w l0), (1, iv l1), (2, iv l2), (3, iv l3), (4, iv l4)]) [6, 0, 1, 2, 3, 4, 5] rfl (zv_exit (fun h => h))
theorem c_X2_countHigherRound (l : Launch) {w : zW} (hw : zWk w)  (p0 : Nat) (p1 : Int) (M0 : zM) (hp0 : ztag w.1 p0 = 3) : zCn l yX2_countHigherRound cX2_countHigherRound 8 (some .int) (1) 1 w [rn w p0, iv p1] M0 ((f_X2_countHigherRound w.1 p0 p1 M0).map fun v => (M0, v)) := by
  have hT := hw.1
  refine zCn_ofP (own := RX2) (by decide) rfl hw (Nat.le_of_ble_eq_true rfl) [(0, rn w p0), (1, iv p1)] rfl ?_
  intro κ hl
  subst hl
  unfold f_X2_countHigherRound
  refine zv_iload_n dX2_countHigherRound_0 1 rfl ?_
  refine zv_bipush (z := 16) dX2_countHigherRound_1 (by decide) ?_
  refine zv_iremc (by decide) dX2_countHigherRound_3 ?_
  refine zv_join1 12 (fun x1 => [(0, rn w p0), (1, iv p1)]) (fun x1 => [iv x1]) (fun x1 => M0) ?_ (fun x1 => ?_)
  · refine zv_if_ne (tgt := 11) dX2_countHigherRound_4 (by decide) ?_ ?_
    · refine zv_iconst (z := 1) dX2_countHigherRound_11 ?_
      exact zv_sub (L' := [(0, rn w p0), (1, iv p1)]) [0, 1] rfl (zv_exit (fun h => h))
    refine zv_iconst (z := 0) dX2_countHigherRound_7 ?_
    refine zv_goto (tgt := 12) dX2_countHigherRound_8 (by decide) ?_
    exact zv_sub (L' := [(0, rn w p0), (1, iv p1)]) [0, 1] rfl (zv_exit (fun h => h))
  refine zv_istore_np (L' := [(2, iv x1), (0, rn w p0), (1, iv p1)]) (by rfl) dX2_countHigherRound_12 (by decide) rfl ?_
  refine zv_iload_n dX2_countHigherRound_13 2 rfl ?_
  refine zv_bipush (z := 16) dX2_countHigherRound_14 (by decide) ?_
  refine zv_iremc (by decide) dX2_countHigherRound_16 ?_
  refine zv_bipush (z := 15) dX2_countHigherRound_17 (by decide) ?_
  refine zv_join1 27 (fun x2 => [(2, iv x1), (0, rn w p0), (1, iv p1)]) (fun x2 => [iv x2]) (fun x2 => M0) ?_ (fun x2 => ?_)
  · refine zv_icmp_ne (tgt := 26) dX2_countHigherRound_19 (by decide) ?_ ?_
    · refine zv_iconst (z := 1) dX2_countHigherRound_26 ?_
      exact zv_sub (L' := [(2, iv x1), (0, rn w p0), (1, iv p1)]) [0, 1, 2] rfl (zv_exit (fun h => h))
    refine zv_iconst (z := 0) dX2_countHigherRound_22 ?_
    refine zv_goto (tgt := 27) dX2_countHigherRound_23 (by decide) ?_
    exact zv_sub (L' := [(2, iv x1), (0, rn w p0), (1, iv p1)]) [0, 1, 2] rfl (zv_exit (fun h => h))
  refine zv_istore_np (L' := [(3, iv x2), (2, iv x1), (0, rn w p0), (1, iv p1)]) (by rfl) dX2_countHigherRound_27 (by decide) rfl ?_
  refine zv_rload_n dX2_countHigherRound_28 2 rfl ?_
  refine zg_RX2_21 dX2_countHigherRound_29 hp0 ?_
  refine zv_iload_n dX2_countHigherRound_32 3 rfl ?_
  refine zv_iald dX2_countHigherRound_33 (zta_2_3 hT hp0) (ztl_2_3 hT hp0) (by decide) ?_
  refine zv_istore dX2_countHigherRound_34 (fun x3 => [(4, iv x3), (3, iv x2), (2, iv x1), (0, rn w p0), (1, iv p1)]) (by decide) (fun _ => rfl) (fun x3 => ?_)
  refine zv_iconst (z := 0) dX2_countHigherRound_36 ?_
  refine zv_istore_p (L' := [(5, iv 0), (4, iv x3), (3, iv x2), (2, iv x1), (0, rn w p0), (1, iv p1)]) dX2_countHigherRound_37 (by decide) rfl ?_
  refine zv_iload_n dX2_countHigherRound_39 5 rfl ?_
  refine zv_bipush (z := 16) dX2_countHigherRound_40 (by decide) ?_
  refine zv_isub dX2_countHigherRound_42 ?_
  refine zv_istore dX2_countHigherRound_43 (fun x4 => [(6, iv x4), (5, iv 0), (4, iv x3), (3, iv x2), (2, iv x1), (0, rn w p0), (1, iv p1)]) (by decide) (fun _ => rfl) (fun x4 => ?_)
  refine zv_join1 111 (fun x15 => [(5, iv x15)]) (fun x15 => []) (fun x15 => M0) (zv_sub (L' := [(5, iv 0), (6, iv x4), (0, rn w p0), (1, iv p1), (2, iv x1), (3, iv x2), (4, iv x3)]) [1, 0, 5, 6, 4, 3, 2] rfl (vl_X2_countHigherRound_45 hw p0 p1 x1 x2 x3 hp0 M0 _ (fun _ h => h) 0 x4)) (fun x15 => ?_)
  refine zv_iload dX2_countHigherRound_111 0 rfl ?_
  exact zv_ret (fun h => h) (zv_iret dX2_countHigherRound_113)
def f_X10_beside (k : zK)  (p0 : Int) (p1 : Int) (M0 : zM) : Option Int :=
  zgd (0 ≤ p0 ∧ p0 ≤ 2147483647) (zlt (p0 % 16) (fun x1 => zgd (zr p1) (if p1 = 0 then (zbr p0 16 (p0 < 16) (some (-1)) (some (p0 - 16))) else (if p1 = 1 then (zbr x1 0 (x1 ≤ 0) (some (-1)) (some (p0 - 1))) else (if p1 = 2 then (zbr x1 15 (15 ≤ x1) (some (-1)) (some (p0 + 1))) else (if p1 = 3 then (zbr p0 240 (240 ≤ p0) (some (-1)) (some (p0 + 16))) else (some (-1))))))))
set_option maxRecDepth 20000 in
theorem c_X10_beside (l : Launch) {w : zW} (hw : zWk w)  (p0 : Int) (p1 : Int) (M0 : zM)  : zCn l yX10_beside cX10_beside 3 (some .int) (0) 1 w [iv p0, iv p1] M0 ((f_X10_beside w.1 p0 p1 M0).map fun v => (M0, v)) := by
  have hT := hw.1
  refine zCn_ofP (own := RX10) (by decide) rfl hw (Nat.le_of_ble_eq_true rfl) [(0, iv p0), (1, iv p1)] rfl ?_
  intro κ hl
  subst hl
  unfold f_X10_beside
  refine zv_iload_n dX10_beside_0 0 rfl ?_
  refine zv_bipush (z := 16) dX10_beside_1 (by decide) ?_
  refine zv_iremc (by decide) dX10_beside_3 ?_
  refine zv_istore_n (i := 2) (by rfl) dX10_beside_4 (fun x1 => [(2, iv x1), (0, iv p0), (1, iv p1)]) (by decide) (fun _ => rfl) (fun x1 => ?_)
  refine zv_iload_n dX10_beside_5 2 rfl ?_
  refine zv_gd (fun h2 => ?_)
  refine zv_ite (fun h3 => ?_) (fun h4 => ?_)
  · refine zv_tin (tgt := 36) dX10_beside_6 h3 (by decide) (by decide) (by decide) rfl (by decide) ?_
    refine zv_iload_n dX10_beside_36 1 rfl ?_
    refine zv_bipush (z := 16) dX10_beside_37 (by decide) ?_
    refine zv_icmp_lt (tgt := 49) dX10_beside_39 (by decide) ?_ ?_
    · refine zv_iconst (z := (-1)) dX10_beside_49 ?_
      exact zv_ret (fun h => h) (zv_iret dX10_beside_50)
    refine zv_iload_n dX10_beside_42 1 rfl ?_
    refine zv_bipush (z := 16) dX10_beside_43 (by decide) ?_
    refine zv_isub dX10_beside_45 ?_
    refine zv_goto (tgt := 50) dX10_beside_46 (by decide) ?_
    exact zv_ret (fun h => h) (zv_iret dX10_beside_50)
  refine zv_ite (fun h5 => ?_) (fun h6 => ?_)
  · refine zv_tin (tgt := 51) dX10_beside_6 h5 (by decide) (by decide) (by decide) rfl (by decide) ?_
    refine zv_iload_n dX10_beside_51 0 rfl ?_
    refine zv_if_le (tgt := 61) dX10_beside_52 (by decide) ?_ ?_
    · refine zv_iconst (z := (-1)) dX10_beside_61 ?_
      exact zv_ret (fun h => h) (zv_iret dX10_beside_62)
    refine zv_iload_n dX10_beside_55 1 rfl ?_
    refine zv_iconst (z := 1) dX10_beside_56 ?_
    refine zv_isub dX10_beside_57 ?_
    refine zv_goto (tgt := 62) dX10_beside_58 (by decide) ?_
    exact zv_ret (fun h => h) (zv_iret dX10_beside_62)
  refine zv_ite (fun h7 => ?_) (fun h8 => ?_)
  · refine zv_tin (tgt := 63) dX10_beside_6 h7 (by decide) (by decide) (by decide) rfl (by decide) ?_
    refine zv_iload_n dX10_beside_63 0 rfl ?_
    refine zv_bipush (z := 15) dX10_beside_64 (by decide) ?_
    refine zv_icmp_ge (tgt := 75) dX10_beside_66 (by decide) ?_ ?_
    · refine zv_iconst (z := (-1)) dX10_beside_75 ?_
      exact zv_ret (fun h => h) (zv_iret dX10_beside_76)
    refine zv_iload_n dX10_beside_69 1 rfl ?_
    refine zv_iconst (z := 1) dX10_beside_70 ?_
    refine zv_iadd dX10_beside_71 ?_
    refine zv_goto (tgt := 76) dX10_beside_72 (by decide) ?_
    exact zv_ret (fun h => h) (zv_iret dX10_beside_76)
  refine zv_ite (fun h9 => ?_) (fun h10 => ?_)
  · refine zv_tin (tgt := 77) dX10_beside_6 h9 (by decide) (by decide) (by decide) rfl (by decide) ?_
    refine zv_iload_n dX10_beside_77 1 rfl ?_
    refine zv_sipush (z := 240) dX10_beside_78 (by decide) ?_
    refine zv_icmp_ge (tgt := 91) dX10_beside_81 (by decide) ?_ ?_
    · refine zv_iconst (z := (-1)) dX10_beside_91 ?_
      exact zv_ret (fun h => h) (zv_iret dX10_beside_92)
    refine zv_iload_n dX10_beside_84 1 rfl ?_
    refine zv_bipush (z := 16) dX10_beside_85 (by decide) ?_
    refine zv_iadd dX10_beside_87 ?_
    refine zv_goto (tgt := 92) dX10_beside_88 (by decide) ?_
    exact zv_ret (fun h => h) (zv_iret dX10_beside_92)
  refine zv_tout (tgt := 93) dX10_beside_6 h2 (by omega) (by decide) ?_
  refine zv_iconst (z := (-1)) dX10_beside_93 ?_
  exact zv_ret (fun h => h) (zv_iret dX10_beside_94)
def fb_X2_lowestBeside_12 (k : zK)  (l0 : Nat) (l1 : Int) (M0 : zM) (y2 : Int) (y3 : Int) (y4 : Int) : Option ((Int × Int × Int) ⊕ (Int)) :=
  zbr y4 4 (4 ≤ y4) (some (.inr y2)) (zb1 (f_X10_beside k l1 y4 M0) (fun v2 => zbr v2 (-1) (v2 = (-1)) (zlt (y4 + 1) (fun x4 => some (.inl (y2, y3, x4)))) (zgd (0 ≤ v2 ∧ v2 < 256) (zbr (M0 (zfr k l0 3) v2.toNat) y3 (y3 ≤ M0 (zfr k l0 3) v2.toNat) (zlt (y4 + 1) (fun x5 => some (.inl (y2, y3, x5)))) (zgd (0 ≤ v2 ∧ v2 < 256) (zlt (M0 (zfr k l0 3) v2.toNat) (fun x6 => zlt (y4 + 1) (fun x7 => some (.inl (v2, x6, x7))))))))))
def f_X2_lowestBeside (k : zK)  (p0 : Nat) (p1 : Int) (M0 : zM) : Option Int :=
  zgd (0 ≤ p1 ∧ p1 < 256) (zlt (M0 (zfr k p0 3) p1.toNat) (fun x1 => zb1 (zw3 (fb_X2_lowestBeside_12 k p0 p1 M0) zfu (-1) x1 0) (fun x8 => some x8)))
theorem vl_X2_lowestBeside_12 {κ : zC} {w : zW} (hw : zWk w)  (l0 : Nat) (l1 : Int) (g0 : ztag w.1 l0 = 3) (M0 : zM) (E : (Int) → Prop) (hX : ∀ (u2 : Int), E u2 → zB cX2_lowestBeside RX2 6 (some .int) κ w (0, 0, 1) 60 [(2, iv u2)] [] M0)  (y2 : Int) (y3 : Int) (y4 : Int) :
    zV cX2_lowestBeside RX2 6 (some .int) κ w (0, 0, 1) 12 [(2, iv y2), (3, iv y3), (4, iv y4), (0, rn w l0), (1, iv l1)] [] M0 (zw3 (fb_X2_lowestBeside_12 w.1 l0 l1 M0) zfu y2 y3 y4) E := by
  have hT := hw.1
  refine zv_loop3 (fun y2 y3 y4 => [(2, iv y2), (3, iv y3), (4, iv y4), (0, rn w l0), (1, iv l1)]) (fun y2 y3 y4 => M0) (fun y2 y3 y4 => ?_) y2 y3 y4
  unfold fb_X2_lowestBeside_12
  refine zv_iload dX2_lowestBeside_12 2 rfl ?_
  refine zv_iconst (z := 4) dX2_lowestBeside_14 ?_
  refine zv_icmp_ge (tgt := 60) dX2_lowestBeside_15 (by decide) ?_ ?_
  · exact zv_sub (L' := [(2, iv y2)]) [0] rfl (zv_exit (fun h => hX _ h))
  refine zv_iload_n dX2_lowestBeside_18 4 rfl ?_
  refine zv_iload dX2_lowestBeside_19 2 rfl ?_
  refine zv_pc (zv_callNi [iv l1, iv y4] (c_X10_beside κ.2.1 hw l1 y4 M0 ) zmd_X10_beside zwT_X10_beside zwQ_RX2_74 rfl (by decide) rfl (Nat.le_of_ble_eq_true rfl) dX2_lowestBeside_21 (fun mh3 v2 h3 => ?_))
  obtain rfl := zpuE h3
  refine zv_istore_p (L' := [(5, iv v2), (2, iv y2), (3, iv y3), (4, iv y4), (0, rn w l0), (1, iv l1)]) dX2_lowestBeside_24 (by decide) rfl ?_
  refine zv_iload dX2_lowestBeside_26 0 rfl ?_
  refine zv_iconst (z := (-1)) dX2_lowestBeside_28 ?_
  refine zv_icmp_eq (tgt := 54) dX2_lowestBeside_29 (by decide) ?_ ?_
  · refine zv_iinc dX2_lowestBeside_54 3 rfl (fun x4 => [(4, iv x4), (5, iv v2), (2, iv y2), (3, iv y3), (0, rn w l0), (1, iv l1)]) (by decide) (fun _ => rfl) (fun x4 => ?_)
    refine zv_goto (tgt := 12) dX2_lowestBeside_57 (by decide) ?_
    exact zv_sub (L' := [(2, iv y2), (3, iv y3), (4, iv x4), (0, rn w l0), (1, iv l1)]) [2, 3, 0, 4, 5] rfl (zv_exit (fun h => h))
  refine zv_rload_n dX2_lowestBeside_32 4 rfl ?_
  refine zg_RX2_21 dX2_lowestBeside_33 g0 ?_
  refine zv_iload dX2_lowestBeside_36 0 rfl ?_
  refine zv_iald dX2_lowestBeside_38 (zta_2_3 hT g0) (ztl_2_3 hT g0) (by decide) ?_
  refine zv_iload_n dX2_lowestBeside_39 2 rfl ?_
  refine zv_icmp_ge (tgt := 54) dX2_lowestBeside_40 (by decide) ?_ ?_
  · refine zv_iinc dX2_lowestBeside_54 3 rfl (fun x5 => [(4, iv x5), (5, iv v2), (2, iv y2), (3, iv y3), (0, rn w l0), (1, iv l1)]) (by decide) (fun _ => rfl) (fun x5 => ?_)
    refine zv_goto (tgt := 12) dX2_lowestBeside_57 (by decide) ?_
    exact zv_sub (L' := [(2, iv y2), (3, iv y3), (4, iv x5), (0, rn w l0), (1, iv l1)]) [2, 3, 0, 4, 5] rfl (zv_exit (fun h => h))
  refine zv_iload dX2_lowestBeside_43 0 rfl ?_
  refine zv_istore_np (L' := [(2, iv v2), (5, iv v2), (3, iv y3), (4, iv y4), (0, rn w l0), (1, iv l1)]) (by rfl) dX2_lowestBeside_45 (by decide) rfl ?_
  refine zv_rload_n dX2_lowestBeside_46 4 rfl ?_
  refine zg_RX2_21 dX2_lowestBeside_47 g0 ?_
  refine zv_iload dX2_lowestBeside_50 1 rfl ?_
  refine zv_iald dX2_lowestBeside_52 (zta_2_3 hT g0) (ztl_2_3 hT g0) (by decide) ?_
  refine zv_istore_n (i := 3) (by rfl) dX2_lowestBeside_53 (fun x6 => [(3, iv x6), (2, iv v2), (5, iv v2), (4, iv y4), (0, rn w l0), (1, iv l1)]) (by decide) (fun _ => rfl) (fun x6 => ?_)
  refine zv_iinc dX2_lowestBeside_54 3 rfl (fun x7 => [(4, iv x7), (3, iv x6), (2, iv v2), (5, iv v2), (0, rn w l0), (1, iv l1)]) (by decide) (fun _ => rfl) (fun x7 => ?_)
  refine zv_goto (tgt := 12) dX2_lowestBeside_57 (by decide) ?_
  exact zv_sub (L' := [(2, iv v2), (3, iv x6), (4, iv x7), (0, rn w l0), (1, iv l1)]) [2, 1, 0, 4, 5] rfl (zv_exit (fun h => h))
theorem c_X2_lowestBeside (l : Launch) {w : zW} (hw : zWk w)  (p0 : Nat) (p1 : Int) (M0 : zM) (hp0 : ztag w.1 p0 = 3) : zCn l yX2_lowestBeside cX2_lowestBeside 6 (some .int) (1) 1 w [rn w p0, iv p1] M0 ((f_X2_lowestBeside w.1 p0 p1 M0).map fun v => (M0, v)) := by
  have hT := hw.1
  refine zCn_ofP (own := RX2) (by decide) rfl hw (Nat.le_of_ble_eq_true rfl) [(0, rn w p0), (1, iv p1)] rfl ?_
  intro κ hl
  subst hl
  unfold f_X2_lowestBeside
  refine zv_iconst (z := (-1)) dX2_lowestBeside_0 ?_
  refine zv_istore_np (L' := [(2, iv (-1)), (0, rn w p0), (1, iv p1)]) (by rfl) dX2_lowestBeside_1 (by decide) rfl ?_
  refine zv_rload_n dX2_lowestBeside_2 1 rfl ?_
  refine zg_RX2_21 dX2_lowestBeside_3 hp0 ?_
  refine zv_iload_n dX2_lowestBeside_6 2 rfl ?_
  refine zv_iald dX2_lowestBeside_7 (zta_2_3 hT hp0) (ztl_2_3 hT hp0) (by decide) ?_
  refine zv_istore_n (i := 3) (by rfl) dX2_lowestBeside_8 (fun x1 => [(3, iv x1), (2, iv (-1)), (0, rn w p0), (1, iv p1)]) (by decide) (fun _ => rfl) (fun x1 => ?_)
  refine zv_iconst (z := 0) dX2_lowestBeside_9 ?_
  refine zv_istore_p (L' := [(4, iv 0), (3, iv x1), (2, iv (-1)), (0, rn w p0), (1, iv p1)]) dX2_lowestBeside_10 (by decide) rfl ?_
  refine zv_join1 60 (fun x8 => [(2, iv x8)]) (fun x8 => []) (fun x8 => M0) (zv_sub (L' := [(2, iv (-1)), (3, iv x1), (4, iv 0), (0, rn w p0), (1, iv p1)]) [2, 1, 0, 3, 4] rfl (vl_X2_lowestBeside_12 hw p0 p1 hp0 M0 _ (fun _ h => h) (-1) x1 0)) (fun x8 => ?_)
  refine zv_iload_n dX2_lowestBeside_60 0 rfl ?_
  exact zv_ret (fun h => h) (zv_iret dX2_lowestBeside_61)
def fb_J7_fill_53178_5 (k : zK)  (l0 : Nat) (l1 : Int) (l3 : Int) (y2 : Int) (M0 : zM) : Option ((Int × zM) ⊕ (zM)) :=
  zbr y2 l3 (l3 ≤ y2) (some (.inr M0)) (zgd (0 ≤ y2 ∧ y2 < ((zlen k l0 : Nat) : Int)) (zlt (zst M0 l0 y2.toNat (l1)) (fun M2 => zlt (y2 + 1) (fun x3 => some (.inl (x3, M2))))))
def f_J7_fill_53178 (k : zK)  (p0 : Nat) (p1 : Int) (M0 : zM) : Option zM :=
  zgd (((zlen k p0 : Nat) : Int) ≤ 2147483647) (zlt (((zlen k p0 : Nat) : Int)) (fun x1 => zb1 (zw2 (fb_J7_fill_53178_5 k p0 p1 x1) zfu 0 M0) (fun M4 => some M4)))
theorem vl_J7_fill_53178_5 {κ : zC} {w : zW} (hw : zWk w)  (l0 : Nat) (l1 : Int) (l3 : Int) (g0 : ztag w.1 l0 = 20) (hmx : ((zlen w.1 l0 : Nat) : Int) ≤ 2147483647)  (E : (zM) → Prop) (hX : ∀  (M1 : zM), E M1 → zB cJ7_fill_53178 RJ7 4 none κ w (0, 0, 0) 20 [] [] M1)  (y2 : Int) (M0 : zM) :
    zV cJ7_fill_53178 RJ7 4 none κ w (0, 0, 0) 5 [(2, iv y2), (0, rn w l0), (1, iv l1), (3, iv l3)] [] M0 (zw2 (fb_J7_fill_53178_5 w.1 l0 l1 l3) zfu y2 M0) E := by
  have hT := hw.1
  refine zv_loop2 (fun y2 M0 => [(2, iv y2), (0, rn w l0), (1, iv l1), (3, iv l3)]) (fun y2 M0 => M0) (fun y2 M0 => ?_) y2 M0
  unfold fb_J7_fill_53178_5
  refine zv_iload_n dJ7_fill_53178_5 0 rfl ?_
  refine zv_iload_n dJ7_fill_53178_6 3 rfl ?_
  refine zv_icmp_ge (tgt := 20) dJ7_fill_53178_7 (by decide) ?_ ?_
  · exact zv_sub (L' := []) [] rfl (zv_exit (fun h => hX _ h))
  refine zv_rload_n dJ7_fill_53178_10 1 rfl ?_
  refine zv_iload_n dJ7_fill_53178_11 0 rfl ?_
  refine zv_iload_n dJ7_fill_53178_12 2 rfl ?_
  refine zv_iast dJ7_fill_53178_13 g0 rfl hmx (fun M2 => ?_)
  refine zv_iinc dJ7_fill_53178_14 0 rfl (fun x3 => [(2, iv x3), (0, rn w l0), (1, iv l1), (3, iv l3)]) (by decide) (fun _ => rfl) (fun x3 => ?_)
  refine zv_goto (tgt := 5) dJ7_fill_53178_17 (by decide) ?_
  exact zv_sub (L' := [(2, iv x3), (0, rn w l0), (1, iv l1), (3, iv l3)]) [0, 1, 2, 3] rfl (zv_exit (fun h => h))
theorem c_J7_fill_53178 (l : Launch) {w : zW} (hw : zWk w)  (p0 : Nat) (p1 : Int) (M0 : zM) (hp0 : ztag w.1 p0 = 20) {len : Int} (hlp0 : ((zlen w.1 p0 : Nat) : Int) = len) : zCn l yJ7_fill_53178 cJ7_fill_53178 4 none (0) 0 w [rn w p0, iv p1] M0 ((f_J7_fill_53178 w.1 p0 p1 M0).map fun m => (m, (0 : Int))) := by
  have hT := hw.1
  refine zCn_ofV (own := RJ7) (by decide) rfl hw (Nat.le_of_ble_eq_true rfl) [(0, rn w p0), (1, iv p1)] rfl ?_
  intro κ hl
  subst hl
  unfold f_J7_fill_53178
  refine zv_iconst (z := 0) dJ7_fill_53178_0 ?_
  refine zv_istore_np (L' := [(2, iv 0), (0, rn w p0), (1, iv p1)]) (by rfl) dJ7_fill_53178_1 (by decide) rfl ?_
  refine zv_rload_n dJ7_fill_53178_2 1 rfl ?_
  refine zv_gd (fun hmx => ?_)
  refine zv_alen dJ7_fill_53178_3 hp0 ?_
  refine zv_istore_n (i := 3) (by rfl) dJ7_fill_53178_4 (fun x1 => [(3, iv x1), (2, iv 0), (0, rn w p0), (1, iv p1)]) (by decide) (fun _ => rfl) (fun x1 => ?_)
  refine zv_join1 20 (fun M4 => []) (fun M4 => []) (fun M4 => M4) (zv_sub (L' := [(2, iv 0), (0, rn w p0), (1, iv p1), (3, iv x1)]) [1, 2, 3, 0] rfl (vl_J7_fill_53178_5 hw p0 p1 x1 hp0 hmx _ (fun _ h => h) 0 M0)) (fun M4 => ?_)
  exact zv_ret (fun h => h) (zv_vret (v := 0) dJ7_fill_53178_20)
def fb_X2_runWater_12 (k : zK)  (l0 : Nat) (y1 : Int) (M0 : zM) : Option ((Int × zM) ⊕ (zM)) :=
  zbr y1 0 (y1 < 0) (some (.inr M0)) (zgd (0 ≤ y1 ∧ y1 < 256) (zlt (M0 (zfr k l0 8) y1.toNat) (fun x2 => zgd (0 ≤ x2 ∧ x2 < 256) (zgd (zr (M0 (zfr k l0 5) x2.toNat) ∧ zr 99) (zgd (0 ≤ x2 ∧ x2 < 256) (zlt (zst M0 (zfr k l0 5) x2.toNat (zmin (M0 (zfr k l0 5) x2.toNat) 99)) (fun M3 => zgd (0 ≤ x2 ∧ x2 < 256) (zbr (M3 (zfr k l0 4) x2.toNat) (-1) (M3 (zfr k l0 4) x2.toNat = (-1)) (zlt (y1 + (-1)) (fun x4 => some (.inl (x4, M3)))) (zgd (0 ≤ x2 ∧ x2 < 256) (zgd (0 ≤ M3 (zfr k l0 4) x2.toNat ∧ M3 (zfr k l0 4) x2.toNat < 256) (zgd (0 ≤ x2 ∧ x2 < 256) (zgd (0 ≤ M3 (zfr k l0 4) x2.toNat ∧ M3 (zfr k l0 4) x2.toNat < 256) (zlt (zst M3 (zfr k l0 5) (M3 (zfr k l0 4) x2.toNat).toNat ((M3 (zfr k l0 5) (M3 (zfr k l0 4) x2.toNat).toNat) + (M3 (zfr k l0 5) x2.toNat))) (fun M5 => zlt (y1 + (-1)) (fun x6 => some (.inl (x6, M5)))))))))))))))))
def fb_X2_runWater_78 (k : zK)  (l0 : Nat) (y1 : Int) (M0 : zM) : Option ((Int × zM) ⊕ (zM)) :=
  zbr y1 256 (256 ≤ y1) (some (.inr M0)) (zgd (0 ≤ y1 ∧ y1 < 256) (zlt (M0 (zfr k l0 8) y1.toNat) (fun x8 => zgd (0 ≤ x8 ∧ x8 < 256) (zbr (M0 (zfr k l0 4) x8.toNat) (-1) (¬ M0 (zfr k l0 4) x8.toNat = (-1)) (zgd (0 ≤ x8 ∧ x8 < 256) (zgd (0 ≤ M0 (zfr k l0 4) x8.toNat ∧ M0 (zfr k l0 4) x8.toNat < 256) (zgd (0 ≤ x8 ∧ x8 < 256) (zlt (zst M0 (zfr k l0 7) x8.toNat (M0 (zfr k l0 7) (M0 (zfr k l0 4) x8.toNat).toNat)) (fun M9 => zlt (y1 + 1) (fun x10 => some (.inl (x10, M9)))))))) (zgd (0 ≤ x8 ∧ x8 < 256) (zlt (zst M0 (zfr k l0 7) x8.toNat (x8)) (fun M11 => zlt (y1 + 1) (fun x12 => some (.inl (x12, M11))))))))))
def f_X2_runWater (k : zK)  (p0 : Nat) (M0 : zM) : Option zM :=
  zb1 (f_J7_fill_53178 k (zfr k p0 5) 1 M0) (fun M1 => zb1 (zw2 (fb_X2_runWater_12 k p0) zfu 255 M1) (fun M7 => zb1 (zw2 (fb_X2_runWater_78 k p0) zfu 0 M7) (fun M13 => some M13)))
theorem vl_X2_runWater_12 {κ : zC} {w : zW} (hw : zWk w)  (l0 : Nat) (g0 : ztag w.1 l0 = 3)  (E : (zM) → Prop) (hX : ∀  (M1 : zM), E M1 → zB cX2_runWater RX2 3 none κ w (0, 0, 1) 76 [(0, rn w l0)] [] M1)  (y1 : Int) (M0 : zM) :
    zV cX2_runWater RX2 3 none κ w (0, 0, 1) 12 [(1, iv y1), (0, rn w l0)] [] M0 (zw2 (fb_X2_runWater_12 w.1 l0) zfu y1 M0) E := by
  have hT := hw.1
  refine zv_loop2 (fun y1 M0 => [(1, iv y1), (0, rn w l0)]) (fun y1 M0 => M0) (fun y1 M0 => ?_) y1 M0
  unfold fb_X2_runWater_12
  refine zv_iload_n dX2_runWater_12 0 rfl ?_
  refine zv_if_lt (tgt := 76) dX2_runWater_13 (by decide) ?_ ?_
  · exact zv_sub (L' := [(0, rn w l0)]) [1] rfl (zv_exit (fun h => hX _ h))
  refine zv_rload_n dX2_runWater_16 1 rfl ?_
  refine zg_RX2_36 dX2_runWater_17 g0 ?_
  refine zv_iload_n dX2_runWater_20 0 rfl ?_
  refine zv_iald dX2_runWater_21 (zta_2_8 hT g0) (ztl_2_8 hT g0) (by decide) ?_
  refine zv_istore_n (i := 2) (by rfl) dX2_runWater_22 (fun x2 => [(2, iv x2), (1, iv y1), (0, rn w l0)]) (by decide) (fun _ => rfl) (fun x2 => ?_)
  refine zv_rload_n dX2_runWater_23 2 rfl ?_
  refine zg_RX2_27 dX2_runWater_24 g0 ?_
  refine zv_iload_n dX2_runWater_27 0 rfl ?_
  refine zv_rload_n dX2_runWater_28 2 rfl ?_
  refine zg_RX2_27 dX2_runWater_29 g0 ?_
  refine zv_iload_n dX2_runWater_32 0 rfl ?_
  refine zv_iald dX2_runWater_33 (zta_2_5 hT g0) (ztl_2_5 hT g0) (by decide) ?_
  refine zv_bipush (z := 99) dX2_runWater_34 (by decide) ?_
  refine zv_mmin zwM_RX2_54 (by decide) (Nat.le_of_ble_eq_true rfl) dX2_runWater_36 ?_
  refine zv_iast dX2_runWater_39 (zta_2_5 hT g0) (ztl_2_5 hT g0) (by decide) (fun M3 => ?_)
  refine zv_rload_n dX2_runWater_40 2 rfl ?_
  refine zg_RX2_24 dX2_runWater_41 g0 ?_
  refine zv_iload_n dX2_runWater_44 0 rfl ?_
  refine zv_iald dX2_runWater_45 (zta_2_4 hT g0) (ztl_2_4 hT g0) (by decide) ?_
  refine zv_iconst (z := (-1)) dX2_runWater_46 ?_
  refine zv_icmp_eq (tgt := 70) dX2_runWater_47 (by decide) ?_ ?_
  · refine zv_iinc dX2_runWater_70 1 rfl (fun x4 => [(1, iv x4), (2, iv x2), (0, rn w l0)]) (by decide) (fun _ => rfl) (fun x4 => ?_)
    refine zv_goto (tgt := 12) dX2_runWater_73 (by decide) ?_
    exact zv_sub (L' := [(1, iv x4), (0, rn w l0)]) [0, 2] rfl (zv_exit (fun h => h))
  refine zv_rload_n dX2_runWater_50 2 rfl ?_
  refine zg_RX2_27 dX2_runWater_51 g0 ?_
  refine zv_rload_n dX2_runWater_54 2 rfl ?_
  refine zg_RX2_24 dX2_runWater_55 g0 ?_
  refine zv_iload_n dX2_runWater_58 0 rfl ?_
  refine zv_iald dX2_runWater_59 (zta_2_4 hT g0) (ztl_2_4 hT g0) (by decide) ?_
  refine zv_dup2 dX2_runWater_60 rfl rfl ?_
  refine zv_iald dX2_runWater_61 (zta_2_5 hT g0) (ztl_2_5 hT g0) (by decide) ?_
  refine zv_rload_n dX2_runWater_62 2 rfl ?_
  refine zg_RX2_27 dX2_runWater_63 g0 ?_
  refine zv_iload_n dX2_runWater_66 0 rfl ?_
  refine zv_iald dX2_runWater_67 (zta_2_5 hT g0) (ztl_2_5 hT g0) (by decide) ?_
  refine zv_iadd dX2_runWater_68 ?_
  refine zv_iast dX2_runWater_69 (zta_2_5 hT g0) (ztl_2_5 hT g0) (by decide) (fun M5 => ?_)
  refine zv_iinc dX2_runWater_70 1 rfl (fun x6 => [(1, iv x6), (2, iv x2), (0, rn w l0)]) (by decide) (fun _ => rfl) (fun x6 => ?_)
  refine zv_goto (tgt := 12) dX2_runWater_73 (by decide) ?_
  exact zv_sub (L' := [(1, iv x6), (0, rn w l0)]) [0, 2] rfl (zv_exit (fun h => h))
theorem vl_X2_runWater_78 {κ : zC} {w : zW} (hw : zWk w)  (l0 : Nat) (g0 : ztag w.1 l0 = 3)  (E : (zM) → Prop) (hX : ∀  (M1 : zM), E M1 → zB cX2_runWater RX2 3 none κ w (0, 0, 1) 129 [] [] M1)  (y1 : Int) (M0 : zM) :
    zV cX2_runWater RX2 3 none κ w (0, 0, 1) 78 [(1, iv y1), (0, rn w l0)] [] M0 (zw2 (fb_X2_runWater_78 w.1 l0) zfu y1 M0) E := by
  have hT := hw.1
  refine zv_loop2 (fun y1 M0 => [(1, iv y1), (0, rn w l0)]) (fun y1 M0 => M0) (fun y1 M0 => ?_) y1 M0
  unfold fb_X2_runWater_78
  refine zv_iload_n dX2_runWater_78 0 rfl ?_
  refine zv_sipush (z := 256) dX2_runWater_79 (by decide) ?_
  refine zv_icmp_ge (tgt := 129) dX2_runWater_82 (by decide) ?_ ?_
  · exact zv_sub (L' := []) [] rfl (zv_exit (fun h => hX _ h))
  refine zv_rload_n dX2_runWater_85 1 rfl ?_
  refine zg_RX2_36 dX2_runWater_86 g0 ?_
  refine zv_iload_n dX2_runWater_89 0 rfl ?_
  refine zv_iald dX2_runWater_90 (zta_2_8 hT g0) (ztl_2_8 hT g0) (by decide) ?_
  refine zv_istore_n (i := 2) (by rfl) dX2_runWater_91 (fun x8 => [(2, iv x8), (1, iv y1), (0, rn w l0)]) (by decide) (fun _ => rfl) (fun x8 => ?_)
  refine zv_rload_n dX2_runWater_92 2 rfl ?_
  refine zg_RX2_33 dX2_runWater_93 g0 ?_
  refine zv_iload_n dX2_runWater_96 0 rfl ?_
  refine zv_rload_n dX2_runWater_97 2 rfl ?_
  refine zg_RX2_24 dX2_runWater_98 g0 ?_
  refine zv_iload_n dX2_runWater_101 0 rfl ?_
  refine zv_iald dX2_runWater_102 (zta_2_4 hT g0) (ztl_2_4 hT g0) (by decide) ?_
  refine zv_iconst (z := (-1)) dX2_runWater_103 ?_
  refine zv_icmp_ne (tgt := 111) dX2_runWater_104 (by decide) ?_ ?_
  · refine zv_rload_n dX2_runWater_111 2 rfl ?_
    refine zg_RX2_33 dX2_runWater_112 g0 ?_
    refine zv_rload_n dX2_runWater_115 2 rfl ?_
    refine zg_RX2_24 dX2_runWater_116 g0 ?_
    refine zv_iload_n dX2_runWater_119 0 rfl ?_
    refine zv_iald dX2_runWater_120 (zta_2_4 hT g0) (ztl_2_4 hT g0) (by decide) ?_
    refine zv_iald dX2_runWater_121 (zta_2_7 hT g0) (ztl_2_7 hT g0) (by decide) ?_
    refine zv_iast dX2_runWater_122 (zta_2_7 hT g0) (ztl_2_7 hT g0) (by decide) (fun M9 => ?_)
    refine zv_iinc dX2_runWater_123 1 rfl (fun x10 => [(1, iv x10), (2, iv x8), (0, rn w l0)]) (by decide) (fun _ => rfl) (fun x10 => ?_)
    refine zv_goto (tgt := 78) dX2_runWater_126 (by decide) ?_
    exact zv_sub (L' := [(1, iv x10), (0, rn w l0)]) [0, 2] rfl (zv_exit (fun h => h))
  refine zv_iload_n dX2_runWater_107 0 rfl ?_
  refine zv_goto (tgt := 122) dX2_runWater_108 (by decide) ?_
  refine zv_iast dX2_runWater_122 (zta_2_7 hT g0) (ztl_2_7 hT g0) (by decide) (fun M11 => ?_)
  refine zv_iinc dX2_runWater_123 1 rfl (fun x12 => [(1, iv x12), (2, iv x8), (0, rn w l0)]) (by decide) (fun _ => rfl) (fun x12 => ?_)
  refine zv_goto (tgt := 78) dX2_runWater_126 (by decide) ?_
  exact zv_sub (L' := [(1, iv x12), (0, rn w l0)]) [0, 2] rfl (zv_exit (fun h => h))
theorem c_X2_runWater (l : Launch) {w : zW} (hw : zWk w)  (p0 : Nat) (M0 : zM) (hp0 : ztag w.1 p0 = 3) : zCn l yX2_runWater cX2_runWater 3 none (1) 0 w [rn w p0] M0 ((f_X2_runWater w.1 p0 M0).map fun m => (m, (0 : Int))) := by
  have hT := hw.1
  refine zCn_ofV (own := RX2) (by decide) rfl hw (Nat.le_of_ble_eq_true rfl) [(0, rn w p0)] rfl ?_
  intro κ hl
  subst hl
  unfold f_X2_runWater
  refine zv_rload_n dX2_runWater_0 0 rfl ?_
  refine zg_RX2_27 dX2_runWater_1 hp0 ?_
  refine zv_iconst (z := 1) dX2_runWater_4 ?_
  refine zv_vc (zv_callSv [rn w (zfr w.1 p0 5), iv 1] (c_J7_fill_53178 κ.2.1 hw (zfr w.1 p0 5) 1 M0 (zta_2_5 hT hp0) (ztl_2_5 hT hp0)) zmd_J7_fill_53178 zwT_J7_fill_53178 zwM_RX2_81 rfl (by decide) rfl (Nat.le_of_ble_eq_true rfl) dX2_runWater_5 (fun M1 _ _ => ?_))
  refine zv_sipush (z := 255) dX2_runWater_8 (by decide) ?_
  refine zv_istore_np (L' := [(1, iv 255), (0, rn w p0)]) (by rfl) dX2_runWater_11 (by decide) rfl ?_
  refine zv_join1 76 (fun M7 => [(0, rn w p0)]) (fun M7 => []) (fun M7 => M7) (zv_sub (L' := [(1, iv 255), (0, rn w p0)]) [0, 1] rfl (vl_X2_runWater_12 hw p0 hp0 _ (fun _ h => h) 255 M1)) (fun M7 => ?_)
  refine zv_iconst (z := 0) dX2_runWater_76 ?_
  refine zv_istore_np (L' := [(1, iv 0), (0, rn w p0)]) (by rfl) dX2_runWater_77 (by decide) rfl ?_
  refine zv_join1 129 (fun M13 => []) (fun M13 => []) (fun M13 => M13) (zv_sub (L' := [(1, iv 0), (0, rn w p0)]) [0, 1] rfl (vl_X2_runWater_78 hw p0 hp0 _ (fun _ h => h) 0 M7)) (fun M13 => ?_)
  exact zv_ret (fun h => h) (zv_vret (v := 0) dX2_runWater_129)
def fb_X2_sortByMiddle_10 (k : zK)  (l0 : Nat) (y1 : Int) (M0 : zM) : Option ((Int × zM) ⊕ (zM)) :=
  zbr y1 256 (256 ≤ y1) (some (.inr M0)) (zgd (0 ≤ y1 ∧ y1 < 256) (zgd (0 ≤ (M0 (zfr k l0 3) y1.toNat) + 1 ∧ (M0 (zfr k l0 3) y1.toNat) + 1 < 200) (zgd (0 ≤ (M0 (zfr k l0 3) y1.toNat) + 1 ∧ (M0 (zfr k l0 3) y1.toNat) + 1 < 200) (zlt (zst M0 (zfr k l0 9) ((M0 (zfr k l0 3) y1.toNat) + 1).toNat ((M0 (zfr k l0 9) ((M0 (zfr k l0 3) y1.toNat) + 1).toNat) + 1)) (fun M2 => zlt (y1 + 1) (fun x3 => some (.inl (x3, M2))))))))
def fb_X2_sortByMiddle_42 (k : zK)  (l0 : Nat) (y1 : Int) (M0 : zM) : Option ((Int × zM) ⊕ (zM)) :=
  zbr y1 199 (199 ≤ y1) (some (.inr M0)) (zgd (0 ≤ y1 + 1 ∧ y1 + 1 < 200) (zgd (0 ≤ y1 ∧ y1 < 200) (zgd (0 ≤ y1 + 1 ∧ y1 + 1 < 200) (zlt (zst M0 (zfr k l0 9) (y1 + 1).toNat ((M0 (zfr k l0 9) (y1 + 1).toNat) + (M0 (zfr k l0 9) y1.toNat))) (fun M5 => zlt (y1 + 1) (fun x6 => some (.inl (x6, M5))))))))
def fb_X2_sortByMiddle_74 (k : zK)  (l0 : Nat) (y1 : Int) (M0 : zM) : Option ((Int × zM) ⊕ (zM)) :=
  zbr y1 256 (256 ≤ y1) (some (.inr M0)) (zgd (0 ≤ y1 ∧ y1 < 256) (zgd (0 ≤ M0 (zfr k l0 3) y1.toNat ∧ M0 (zfr k l0 3) y1.toNat < 200) (zgd (0 ≤ M0 (zfr k l0 9) (M0 (zfr k l0 3) y1.toNat).toNat ∧ M0 (zfr k l0 9) (M0 (zfr k l0 3) y1.toNat).toNat < 256) (zlt (zst M0 (zfr k l0 8) (M0 (zfr k l0 9) (M0 (zfr k l0 3) y1.toNat).toNat).toNat (y1)) (fun M8 => zgd (0 ≤ y1 ∧ y1 < 256) (zgd (0 ≤ M8 (zfr k l0 3) y1.toNat ∧ M8 (zfr k l0 3) y1.toNat < 200) (zgd (0 ≤ M8 (zfr k l0 3) y1.toNat ∧ M8 (zfr k l0 3) y1.toNat < 200) (zlt (zst M8 (zfr k l0 9) (M8 (zfr k l0 3) y1.toNat).toNat ((M8 (zfr k l0 9) (M8 (zfr k l0 3) y1.toNat).toNat) + 1)) (fun M9 => zlt (y1 + 1) (fun x10 => some (.inl (x10, M9))))))))))))
def f_X2_sortByMiddle (k : zK)  (p0 : Nat) (M0 : zM) : Option zM :=
  zb1 (f_J7_fill_53178 k (zfr k p0 9) 0 M0) (fun M1 => zb1 (zw2 (fb_X2_sortByMiddle_10 k p0) zfu 0 M1) (fun M4 => zb1 (zw2 (fb_X2_sortByMiddle_42 k p0) zfu 0 M4) (fun M7 => zb1 (zw2 (fb_X2_sortByMiddle_74 k p0) zfu 0 M7) (fun M11 => some M11))))
theorem vl_X2_sortByMiddle_10 {κ : zC} {w : zW} (hw : zWk w)  (l0 : Nat) (g0 : ztag w.1 l0 = 3)  (E : (zM) → Prop) (hX : ∀  (M1 : zM), E M1 → zB cX2_sortByMiddle RX2 2 none κ w (0, 0, 1) 40 [(0, rn w l0)] [] M1)  (y1 : Int) (M0 : zM) :
    zV cX2_sortByMiddle RX2 2 none κ w (0, 0, 1) 10 [(1, iv y1), (0, rn w l0)] [] M0 (zw2 (fb_X2_sortByMiddle_10 w.1 l0) zfu y1 M0) E := by
  have hT := hw.1
  refine zv_loop2 (fun y1 M0 => [(1, iv y1), (0, rn w l0)]) (fun y1 M0 => M0) (fun y1 M0 => ?_) y1 M0
  unfold fb_X2_sortByMiddle_10
  refine zv_iload_n dX2_sortByMiddle_10 0 rfl ?_
  refine zv_sipush (z := 256) dX2_sortByMiddle_11 (by decide) ?_
  refine zv_icmp_ge (tgt := 40) dX2_sortByMiddle_14 (by decide) ?_ ?_
  · exact zv_sub (L' := [(0, rn w l0)]) [1] rfl (zv_exit (fun h => hX _ h))
  refine zv_rload_n dX2_sortByMiddle_17 1 rfl ?_
  refine zg_RX2_39 dX2_sortByMiddle_18 g0 ?_
  refine zv_rload_n dX2_sortByMiddle_21 1 rfl ?_
  refine zg_RX2_21 dX2_sortByMiddle_22 g0 ?_
  refine zv_iload_n dX2_sortByMiddle_25 0 rfl ?_
  refine zv_iald dX2_sortByMiddle_26 (zta_2_3 hT g0) (ztl_2_3 hT g0) (by decide) ?_
  refine zv_iconst (z := 1) dX2_sortByMiddle_27 ?_
  refine zv_iadd dX2_sortByMiddle_28 ?_
  refine zv_dup2 dX2_sortByMiddle_29 rfl rfl ?_
  refine zv_iald dX2_sortByMiddle_30 (zta_2_9 hT g0) (ztl_2_9 hT g0) (by decide) ?_
  refine zv_iconst (z := 1) dX2_sortByMiddle_31 ?_
  refine zv_iadd dX2_sortByMiddle_32 ?_
  refine zv_iast dX2_sortByMiddle_33 (zta_2_9 hT g0) (ztl_2_9 hT g0) (by decide) (fun M2 => ?_)
  refine zv_iinc dX2_sortByMiddle_34 0 rfl (fun x3 => [(1, iv x3), (0, rn w l0)]) (by decide) (fun _ => rfl) (fun x3 => ?_)
  refine zv_goto (tgt := 10) dX2_sortByMiddle_37 (by decide) ?_
  exact zv_sub (L' := [(1, iv x3), (0, rn w l0)]) [0, 1] rfl (zv_exit (fun h => h))
theorem vl_X2_sortByMiddle_42 {κ : zC} {w : zW} (hw : zWk w)  (l0 : Nat) (g0 : ztag w.1 l0 = 3)  (E : (zM) → Prop) (hX : ∀  (M1 : zM), E M1 → zB cX2_sortByMiddle RX2 2 none κ w (0, 0, 1) 72 [(0, rn w l0)] [] M1)  (y1 : Int) (M0 : zM) :
    zV cX2_sortByMiddle RX2 2 none κ w (0, 0, 1) 42 [(1, iv y1), (0, rn w l0)] [] M0 (zw2 (fb_X2_sortByMiddle_42 w.1 l0) zfu y1 M0) E := by
  have hT := hw.1
  refine zv_loop2 (fun y1 M0 => [(1, iv y1), (0, rn w l0)]) (fun y1 M0 => M0) (fun y1 M0 => ?_) y1 M0
  unfold fb_X2_sortByMiddle_42
  refine zv_iload_n dX2_sortByMiddle_42 0 rfl ?_
  refine zv_sipush (z := 199) dX2_sortByMiddle_43 (by decide) ?_
  refine zv_icmp_ge (tgt := 72) dX2_sortByMiddle_46 (by decide) ?_ ?_
  · exact zv_sub (L' := [(0, rn w l0)]) [1] rfl (zv_exit (fun h => hX _ h))
  refine zv_rload_n dX2_sortByMiddle_49 1 rfl ?_
  refine zg_RX2_39 dX2_sortByMiddle_50 g0 ?_
  refine zv_iload_n dX2_sortByMiddle_53 0 rfl ?_
  refine zv_iconst (z := 1) dX2_sortByMiddle_54 ?_
  refine zv_iadd dX2_sortByMiddle_55 ?_
  refine zv_dup2 dX2_sortByMiddle_56 rfl rfl ?_
  refine zv_iald dX2_sortByMiddle_57 (zta_2_9 hT g0) (ztl_2_9 hT g0) (by decide) ?_
  refine zv_rload_n dX2_sortByMiddle_58 1 rfl ?_
  refine zg_RX2_39 dX2_sortByMiddle_59 g0 ?_
  refine zv_iload_n dX2_sortByMiddle_62 0 rfl ?_
  refine zv_iald dX2_sortByMiddle_63 (zta_2_9 hT g0) (ztl_2_9 hT g0) (by decide) ?_
  refine zv_iadd dX2_sortByMiddle_64 ?_
  refine zv_iast dX2_sortByMiddle_65 (zta_2_9 hT g0) (ztl_2_9 hT g0) (by decide) (fun M5 => ?_)
  refine zv_iinc dX2_sortByMiddle_66 0 rfl (fun x6 => [(1, iv x6), (0, rn w l0)]) (by decide) (fun _ => rfl) (fun x6 => ?_)
  refine zv_goto (tgt := 42) dX2_sortByMiddle_69 (by decide) ?_
  exact zv_sub (L' := [(1, iv x6), (0, rn w l0)]) [0, 1] rfl (zv_exit (fun h => h))
theorem vl_X2_sortByMiddle_74 {κ : zC} {w : zW} (hw : zWk w)  (l0 : Nat) (g0 : ztag w.1 l0 = 3)  (E : (zM) → Prop) (hX : ∀  (M1 : zM), E M1 → zB cX2_sortByMiddle RX2 2 none κ w (0, 0, 1) 119 [] [] M1)  (y1 : Int) (M0 : zM) :
    zV cX2_sortByMiddle RX2 2 none κ w (0, 0, 1) 74 [(1, iv y1), (0, rn w l0)] [] M0 (zw2 (fb_X2_sortByMiddle_74 w.1 l0) zfu y1 M0) E := by
  have hT := hw.1
  refine zv_loop2 (fun y1 M0 => [(1, iv y1), (0, rn w l0)]) (fun y1 M0 => M0) (fun y1 M0 => ?_) y1 M0
  unfold fb_X2_sortByMiddle_74
  refine zv_iload_n dX2_sortByMiddle_74 0 rfl ?_
  refine zv_sipush (z := 256) dX2_sortByMiddle_75 (by decide) ?_
  refine zv_icmp_ge (tgt := 119) dX2_sortByMiddle_78 (by decide) ?_ ?_
  · exact zv_sub (L' := []) [] rfl (zv_exit (fun h => hX _ h))
  refine zv_rload_n dX2_sortByMiddle_81 1 rfl ?_
  refine zg_RX2_36 dX2_sortByMiddle_82 g0 ?_
  refine zv_rload_n dX2_sortByMiddle_85 1 rfl ?_
  refine zg_RX2_39 dX2_sortByMiddle_86 g0 ?_
  refine zv_rload_n dX2_sortByMiddle_89 1 rfl ?_
  refine zg_RX2_21 dX2_sortByMiddle_90 g0 ?_
  refine zv_iload_n dX2_sortByMiddle_93 0 rfl ?_
  refine zv_iald dX2_sortByMiddle_94 (zta_2_3 hT g0) (ztl_2_3 hT g0) (by decide) ?_
  refine zv_iald dX2_sortByMiddle_95 (zta_2_9 hT g0) (ztl_2_9 hT g0) (by decide) ?_
  refine zv_iload_n dX2_sortByMiddle_96 0 rfl ?_
  refine zv_iast dX2_sortByMiddle_97 (zta_2_8 hT g0) (ztl_2_8 hT g0) (by decide) (fun M8 => ?_)
  refine zv_rload_n dX2_sortByMiddle_98 1 rfl ?_
  refine zg_RX2_39 dX2_sortByMiddle_99 g0 ?_
  refine zv_rload_n dX2_sortByMiddle_102 1 rfl ?_
  refine zg_RX2_21 dX2_sortByMiddle_103 g0 ?_
  refine zv_iload_n dX2_sortByMiddle_106 0 rfl ?_
  refine zv_iald dX2_sortByMiddle_107 (zta_2_3 hT g0) (ztl_2_3 hT g0) (by decide) ?_
  refine zv_dup2 dX2_sortByMiddle_108 rfl rfl ?_
  refine zv_iald dX2_sortByMiddle_109 (zta_2_9 hT g0) (ztl_2_9 hT g0) (by decide) ?_
  refine zv_iconst (z := 1) dX2_sortByMiddle_110 ?_
  refine zv_iadd dX2_sortByMiddle_111 ?_
  refine zv_iast dX2_sortByMiddle_112 (zta_2_9 hT g0) (ztl_2_9 hT g0) (by decide) (fun M9 => ?_)
  refine zv_iinc dX2_sortByMiddle_113 0 rfl (fun x10 => [(1, iv x10), (0, rn w l0)]) (by decide) (fun _ => rfl) (fun x10 => ?_)
  refine zv_goto (tgt := 74) dX2_sortByMiddle_116 (by decide) ?_
  exact zv_sub (L' := [(1, iv x10), (0, rn w l0)]) [0, 1] rfl (zv_exit (fun h => h))
theorem c_X2_sortByMiddle (l : Launch) {w : zW} (hw : zWk w)  (p0 : Nat) (M0 : zM) (hp0 : ztag w.1 p0 = 3) : zCn l yX2_sortByMiddle cX2_sortByMiddle 2 none (1) 0 w [rn w p0] M0 ((f_X2_sortByMiddle w.1 p0 M0).map fun m => (m, (0 : Int))) := by
  have hT := hw.1
  refine zCn_ofV (own := RX2) (by decide) rfl hw (Nat.le_of_ble_eq_true rfl) [(0, rn w p0)] rfl ?_
  intro κ hl
  subst hl
  unfold f_X2_sortByMiddle
  refine zv_rload_n dX2_sortByMiddle_0 0 rfl ?_
  refine zg_RX2_39 dX2_sortByMiddle_1 hp0 ?_
  refine zv_iconst (z := 0) dX2_sortByMiddle_4 ?_
  refine zv_vc (zv_callSv [rn w (zfr w.1 p0 9), iv 0] (c_J7_fill_53178 κ.2.1 hw (zfr w.1 p0 9) 0 M0 (zta_2_9 hT hp0) (ztl_2_9 hT hp0)) zmd_J7_fill_53178 zwT_J7_fill_53178 zwM_RX2_81 rfl (by decide) rfl (Nat.le_of_ble_eq_true rfl) dX2_sortByMiddle_5 (fun M1 _ _ => ?_))
  refine zv_iconst (z := 0) dX2_sortByMiddle_8 ?_
  refine zv_istore_np (L' := [(1, iv 0), (0, rn w p0)]) (by rfl) dX2_sortByMiddle_9 (by decide) rfl ?_
  refine zv_join1 40 (fun M4 => [(0, rn w p0)]) (fun M4 => []) (fun M4 => M4) (zv_sub (L' := [(1, iv 0), (0, rn w p0)]) [0, 1] rfl (vl_X2_sortByMiddle_10 hw p0 hp0 _ (fun _ h => h) 0 M1)) (fun M4 => ?_)
  refine zv_iconst (z := 0) dX2_sortByMiddle_40 ?_
  refine zv_istore_np (L' := [(1, iv 0), (0, rn w p0)]) (by rfl) dX2_sortByMiddle_41 (by decide) rfl ?_
  refine zv_join1 72 (fun M7 => [(0, rn w p0)]) (fun M7 => []) (fun M7 => M7) (zv_sub (L' := [(1, iv 0), (0, rn w p0)]) [0, 1] rfl (vl_X2_sortByMiddle_42 hw p0 hp0 _ (fun _ h => h) 0 M4)) (fun M7 => ?_)
  refine zv_iconst (z := 0) dX2_sortByMiddle_72 ?_
  refine zv_istore_np (L' := [(1, iv 0), (0, rn w p0)]) (by rfl) dX2_sortByMiddle_73 (by decide) rfl ?_
  refine zv_join1 119 (fun M11 => []) (fun M11 => []) (fun M11 => M11) (zv_sub (L' := [(1, iv 0), (0, rn w p0)]) [0, 1] rfl (vl_X2_sortByMiddle_74 hw p0 hp0 _ (fun _ h => h) 0 M7)) (fun M11 => ?_)
  exact zv_ret (fun h => h) (zv_vret (v := 0) dX2_sortByMiddle_119)
def f_X3_compares (k : zK)  (p0 : Int) (p1 : Int) (p2 : Int) (M0 : zM) : Option Int :=
  zbr p1 0 (¬ p1 = 0) (zbr p1 1 (¬ p1 = 1) (zbr p0 p2 (¬ p0 = p2) (some 0) (some 1)) (zbr p0 p2 (p0 ≤ p2) (some 0) (some 1))) (zbr p0 p2 (p2 ≤ p0) (some 0) (some 1))
theorem c_X3_compares (l : Launch) {w : zW} (hw : zWk w)  (p0 : Int) (p1 : Int) (p2 : Int) (M0 : zM)  : zCn l yX3_compares cX3_compares 3 (some .boolean) (0) 1 w [iv p0, iv p1, iv p2] M0 ((f_X3_compares w.1 p0 p1 p2 M0).map fun v => (M0, v)) := by
  have hT := hw.1
  refine zCn_ofP (own := RX3) (by decide) rfl hw (Nat.le_of_ble_eq_true rfl) [(0, iv p0), (1, iv p1), (2, iv p2)] rfl ?_
  intro κ hl
  subst hl
  unfold f_X3_compares
  refine zv_iload_n dX3_compares_0 1 rfl ?_
  refine zv_if_ne (tgt := 15) dX3_compares_1 (by decide) ?_ ?_
  · refine zv_iload_n dX3_compares_15 1 rfl ?_
    refine zv_iconst (z := 1) dX3_compares_16 ?_
    refine zv_icmp_ne (tgt := 33) dX3_compares_17 (by decide) ?_ ?_
    · refine zv_iload_n dX3_compares_33 0 rfl ?_
      refine zv_iload_n dX3_compares_34 2 rfl ?_
      refine zv_icmp_ne (tgt := 42) dX3_compares_35 (by decide) ?_ ?_
      · refine zv_iconst (z := 0) dX3_compares_42 ?_
        exact zv_ret (fun h => h) (zv_zrB (by decide) dX3_compares_43)
      refine zv_iconst (z := 1) dX3_compares_38 ?_
      refine zv_goto (tgt := 43) dX3_compares_39 (by decide) ?_
      exact zv_ret (fun h => h) (zv_zrB (by decide) dX3_compares_43)
    refine zv_iload_n dX3_compares_20 0 rfl ?_
    refine zv_iload_n dX3_compares_21 2 rfl ?_
    refine zv_icmp_le (tgt := 29) dX3_compares_22 (by decide) ?_ ?_
    · refine zv_iconst (z := 0) dX3_compares_29 ?_
      refine zv_goto (tgt := 43) dX3_compares_30 (by decide) ?_
      exact zv_ret (fun h => h) (zv_zrB (by decide) dX3_compares_43)
    refine zv_iconst (z := 1) dX3_compares_25 ?_
    refine zv_goto (tgt := 43) dX3_compares_26 (by decide) ?_
    exact zv_ret (fun h => h) (zv_zrB (by decide) dX3_compares_43)
  refine zv_iload_n dX3_compares_4 0 rfl ?_
  refine zv_iload_n dX3_compares_5 2 rfl ?_
  refine zv_icmp_ge (tgt := 13) dX3_compares_6 (by decide) ?_ ?_
  · refine zv_iconst (z := 0) dX3_compares_13 ?_
    exact zv_ret (fun h => h) (zv_zrB (by decide) dX3_compares_14)
  refine zv_iconst (z := 1) dX3_compares_9 ?_
  refine zv_goto (tgt := 14) dX3_compares_10 (by decide) ?_
  exact zv_ret (fun h => h) (zv_zrB (by decide) dX3_compares_14)
def fb_X3_holds_10 (k : zK)  (l0 : Nat) (l1 : Int) (l2 : Nat) (M0 : zM) (y3 : Int) (y5 : Int) : Option ((Int × Int) ⊕ (Int)) :=
  zgd (0 ≤ l1 ∧ l1 < 40) (zbr y5 (M0 (zfr k l0 5) l1.toNat) (M0 (zfr k l0 5) l1.toNat ≤ y5) (some (.inr y3)) (zgd (0 ≤ y5 ∧ y5 < 700) (zlt (M0 (zfr k l0 6) y5.toNat) (fun x2 => zlt (zo_and x2 15) (fun x3 => zbr x3 3 (¬ x3 = 3) (zbr x3 4 (¬ x3 = 4) (zbr x3 5 (¬ x3 = 5) (zgd (0 ≤ zo_and (zo_shr x2 4) 7 ∧ zo_and (zo_shr x2 4) 7 < 8) (zb1 (f_X3_compares k (M0 l2 (zo_and (zo_shr x2 4) 7).toNat) x3 (zo_shr x2 8) M0) (fun v4 => zb1 (zbr v4 0 (v4 = 0) (some (0)) (some (1))) (fun x6 => zgd (zr x6) (zlt (zo_lor (zo_lshl y3 1) x6) (fun x7 => zlt (y5 + 1) (fun x8 => some (.inl (x7, x8))))))))) (zlt (zo_lor (zo_lushr y3 1) (zo_land y3 1)) (fun x9 => zlt (y5 + 1) (fun x10 => some (.inl (x9, x10)))))) (zlt (zo_land (zo_lushr y3 1) (zo_lor y3 (-2))) (fun x11 => zlt (y5 + 1) (fun x12 => some (.inl (x11, x12)))))) (zlt (zo_lxor y3 1) (fun x13 => zlt (y5 + 1) (fun x14 => some (.inl (x13, x14))))))))))
def f_X3_holds (k : zK)  (p0 : Nat) (p1 : Int) (p2 : Nat) (M0 : zM) : Option Int :=
  zgd (0 ≤ p1 ∧ p1 < 40) (zlt (M0 (zfr k p0 4) p1.toNat) (fun x1 => zb1 (zw2 (fb_X3_holds_10 k p0 p1 p2 M0) zfu 1 x1) (fun x15 => zbl (zo_land x15 1) 1 (¬ zo_land x15 1 = 1) (some 0) (some 1))))
set_option maxRecDepth 20000 in
theorem vl_X3_holds_10 {κ : zC} {w : zW} (hw : zWk w)  (l0 : Nat) (l1 : Int) (l2 : Nat) (g0 : ztag w.1 l0 = 4) (g2 : ztag w.1 l2 = 20) (gl2 : ((zlen w.1 l2 : Nat) : Int) = 8) (M0 : zM) (E : (Int) → Prop) (hX : ∀ (u3 : Int), E u3 → zB cX3_holds RX3 9 (some .boolean) κ w (0, 0, 1) 129 [(3, jv u3)] [] M0)  (y3 : Int) (y5 : Int) :
    zV cX3_holds RX3 9 (some .boolean) κ w (0, 0, 1) 10 [(3, jv y3), (5, iv y5), (0, rn w l0), (1, iv l1), (2, rn w l2)] [] M0 (zw2 (fb_X3_holds_10 w.1 l0 l1 l2 M0) zfu y3 y5) E := by
  have hT := hw.1
  refine zv_loop2 (fun y3 y5 => [(3, jv y3), (5, iv y5), (0, rn w l0), (1, iv l1), (2, rn w l2)]) (fun y3 y5 => M0) (fun y3 y5 => ?_) y3 y5
  unfold fb_X3_holds_10
  refine zv_iload dX3_holds_10 1 rfl ?_
  refine zv_rload_n dX3_holds_12 2 rfl ?_
  refine zg_RX3_28 dX3_holds_13 g0 ?_
  refine zv_iload_n dX3_holds_16 3 rfl ?_
  refine zv_iald dX3_holds_17 (zta_3_5 hT g0) (ztl_3_5 hT g0) (by decide) ?_
  refine zv_icmp_ge (tgt := 129) dX3_holds_18 (by decide) ?_ ?_
  · exact zv_sub (L' := [(3, jv y3)]) [0] rfl (zv_exit (fun h => hX _ h))
  refine zv_rload_n dX3_holds_21 2 rfl ?_
  refine zg_RX3_31 dX3_holds_22 g0 ?_
  refine zv_iload dX3_holds_25 1 rfl ?_
  refine zv_iald dX3_holds_27 (zta_3_6 hT g0) (ztl_3_6 hT g0) (by decide) ?_
  refine zv_istore dX3_holds_28 (fun x2 => [(6, iv x2), (3, jv y3), (5, iv y5), (0, rn w l0), (1, iv l1), (2, rn w l2)]) (by decide) (fun _ => rfl) (fun x2 => ?_)
  refine zv_iload dX3_holds_30 0 rfl ?_
  refine zv_bipush (z := 15) dX3_holds_32 (by decide) ?_
  refine zv_iand dX3_holds_34 ?_
  refine zv_istore dX3_holds_35 (fun x3 => [(7, iv x3), (6, iv x2), (3, jv y3), (5, iv y5), (0, rn w l0), (1, iv l1), (2, rn w l2)]) (by decide) (fun _ => rfl) (fun x3 => ?_)
  refine zv_iload dX3_holds_37 0 rfl ?_
  refine zv_iconst (z := 3) dX3_holds_39 ?_
  refine zv_icmp_ne (tgt := 50) dX3_holds_40 (by decide) ?_ ?_
  · refine zv_iload dX3_holds_50 0 rfl ?_
    refine zv_iconst (z := 4) dX3_holds_52 ?_
    refine zv_icmp_ne (tgt := 69) dX3_holds_53 (by decide) ?_ ?_
    · refine zv_iload dX3_holds_69 0 rfl ?_
      refine zv_iconst (z := 5) dX3_holds_71 ?_
      refine zv_icmp_ne (tgt := 86) dX3_holds_72 (by decide) ?_ ?_
      · refine zv_rload_n dX3_holds_86 6 rfl ?_
        refine zv_iload dX3_holds_87 1 rfl ?_
        refine zv_iconst (z := 4) dX3_holds_89 ?_
        refine zv_ishr dX3_holds_90 ?_
        refine zv_bipush (z := 7) dX3_holds_91 (by decide) ?_
        refine zv_iand dX3_holds_93 ?_
        refine zv_iald dX3_holds_94 g2 gl2 (by decide) ?_
        refine zv_iload dX3_holds_95 0 rfl ?_
        refine zv_iload dX3_holds_97 1 rfl ?_
        refine zv_bipush (z := 8) dX3_holds_99 (by decide) ?_
        refine zv_ishr dX3_holds_101 ?_
        refine zv_pc (zv_callSi [iv (M0 l2 (zo_and (zo_shr x2 4) 7).toNat), iv x3, iv (zo_shr x2 8)] (c_X3_compares κ.2.1 hw (M0 l2 (zo_and (zo_shr x2 4) 7).toNat) x3 (zo_shr x2 8) M0 ) zmd_X3_compares zwT_X3_compares zwM_RX3_78 rfl (by decide) rfl (Nat.le_of_ble_eq_true rfl) dX3_holds_102 (fun mh5 v4 h5 => ?_))
        obtain rfl := zpuE h5
        refine zv_istore_p (L' := [(8, iv v4), (7, iv x3), (6, iv x2), (3, jv y3), (5, iv y5), (0, rn w l0), (1, iv l1), (2, rn w l2)]) dX3_holds_105 (by decide) rfl ?_
        refine zv_lload_n dX3_holds_107 3 rfl ?_
        refine zv_iconst (z := 1) dX3_holds_108 ?_
        refine zv_lshl dX3_holds_109 ?_
        refine zv_iload dX3_holds_110 0 rfl ?_
        refine zv_join1 120 (fun x6 => [(5, iv y5), (0, rn w l0), (1, iv l1), (2, rn w l2)]) (fun x6 => [iv x6, jv (zo_lshl y3 1)]) (fun x6 => M0) ?_ (fun x6 => ?_)
        · refine zv_if_eq (tgt := 119) dX3_holds_112 (by decide) ?_ ?_
          · refine zv_iconst (z := 0) dX3_holds_119 ?_
            exact zv_sub (L' := [(5, iv y5), (0, rn w l0), (1, iv l1), (2, rn w l2)]) [4, 5, 6, 7] rfl (zv_exit (fun h => h))
          refine zv_iconst (z := 1) dX3_holds_115 ?_
          refine zv_goto (tgt := 120) dX3_holds_116 (by decide) ?_
          exact zv_sub (L' := [(5, iv y5), (0, rn w l0), (1, iv l1), (2, rn w l2)]) [4, 5, 6, 7] rfl (zv_exit (fun h => h))
        refine zv_i2l dX3_holds_120 ?_
        refine zv_lor dX3_holds_121 ?_
        refine zv_lstore_n (i := 3) (by rfl) dX3_holds_122 (fun x7 => [(3, jv x7), (5, iv y5), (0, rn w l0), (1, iv l1), (2, rn w l2)]) (by decide) (fun _ => rfl) (fun x7 => ?_)
        refine zv_iinc dX3_holds_123 1 rfl (fun x8 => [(5, iv x8), (3, jv x7), (0, rn w l0), (1, iv l1), (2, rn w l2)]) (by decide) (fun _ => rfl) (fun x8 => ?_)
        refine zv_goto (tgt := 10) dX3_holds_126 (by decide) ?_
        exact zv_sub (L' := [(3, jv x7), (5, iv x8), (0, rn w l0), (1, iv l1), (2, rn w l2)]) [1, 0, 2, 3, 4] rfl (zv_exit (fun h => h))
      refine zv_lload_n dX3_holds_75 2 rfl ?_
      refine zv_iconst (z := 1) dX3_holds_76 ?_
      refine zv_lushr dX3_holds_77 ?_
      refine zv_lload_n dX3_holds_78 2 rfl ?_
      refine zv_lconst (z := 1) dX3_holds_79 (by decide) ?_
      refine zv_land dX3_holds_80 ?_
      refine zv_lor dX3_holds_81 ?_
      refine zv_lstore_n (i := 3) (by rfl) dX3_holds_82 (fun x9 => [(3, jv x9), (7, iv x3), (6, iv x2), (5, iv y5), (0, rn w l0), (1, iv l1), (2, rn w l2)]) (by decide) (fun _ => rfl) (fun x9 => ?_)
      refine zv_goto (tgt := 123) dX3_holds_83 (by decide) ?_
      refine zv_iinc dX3_holds_123 3 rfl (fun x10 => [(5, iv x10), (3, jv x9), (7, iv x3), (6, iv x2), (0, rn w l0), (1, iv l1), (2, rn w l2)]) (by decide) (fun _ => rfl) (fun x10 => ?_)
      refine zv_goto (tgt := 10) dX3_holds_126 (by decide) ?_
      exact zv_sub (L' := [(3, jv x9), (5, iv x10), (0, rn w l0), (1, iv l1), (2, rn w l2)]) [1, 0, 4, 5, 6] rfl (zv_exit (fun h => h))
    refine zv_lload_n dX3_holds_56 2 rfl ?_
    refine zv_iconst (z := 1) dX3_holds_57 ?_
    refine zv_lushr dX3_holds_58 ?_
    refine zv_lload_n dX3_holds_59 2 rfl ?_
    refine zv_ldc2 (z := (-2)) dX3_holds_60 zwK_RX3_76 (by decide) ?_
    refine zv_lor dX3_holds_63 ?_
    refine zv_land dX3_holds_64 ?_
    refine zv_lstore_n (i := 3) (by rfl) dX3_holds_65 (fun x11 => [(3, jv x11), (7, iv x3), (6, iv x2), (5, iv y5), (0, rn w l0), (1, iv l1), (2, rn w l2)]) (by decide) (fun _ => rfl) (fun x11 => ?_)
    refine zv_goto (tgt := 123) dX3_holds_66 (by decide) ?_
    refine zv_iinc dX3_holds_123 3 rfl (fun x12 => [(5, iv x12), (3, jv x11), (7, iv x3), (6, iv x2), (0, rn w l0), (1, iv l1), (2, rn w l2)]) (by decide) (fun _ => rfl) (fun x12 => ?_)
    refine zv_goto (tgt := 10) dX3_holds_126 (by decide) ?_
    exact zv_sub (L' := [(3, jv x11), (5, iv x12), (0, rn w l0), (1, iv l1), (2, rn w l2)]) [1, 0, 4, 5, 6] rfl (zv_exit (fun h => h))
  refine zv_lload_n dX3_holds_43 2 rfl ?_
  refine zv_lconst (z := 1) dX3_holds_44 (by decide) ?_
  refine zv_lxor dX3_holds_45 ?_
  refine zv_lstore_n (i := 3) (by rfl) dX3_holds_46 (fun x13 => [(3, jv x13), (7, iv x3), (6, iv x2), (5, iv y5), (0, rn w l0), (1, iv l1), (2, rn w l2)]) (by decide) (fun _ => rfl) (fun x13 => ?_)
  refine zv_goto (tgt := 123) dX3_holds_47 (by decide) ?_
  refine zv_iinc dX3_holds_123 3 rfl (fun x14 => [(5, iv x14), (3, jv x13), (7, iv x3), (6, iv x2), (0, rn w l0), (1, iv l1), (2, rn w l2)]) (by decide) (fun _ => rfl) (fun x14 => ?_)
  refine zv_goto (tgt := 10) dX3_holds_126 (by decide) ?_
  exact zv_sub (L' := [(3, jv x13), (5, iv x14), (0, rn w l0), (1, iv l1), (2, rn w l2)]) [1, 0, 4, 5, 6] rfl (zv_exit (fun h => h))
theorem c_X3_holds (l : Launch) {w : zW} (hw : zWk w)  (p0 : Nat) (p1 : Int) (p2 : Nat) (M0 : zM) (hp0 : ztag w.1 p0 = 4) (hp2 : ztag w.1 p2 = 20) (hlp2 : ((zlen w.1 p2 : Nat) : Int) = 8) : zCn l yX3_holds cX3_holds 9 (some .boolean) (1) 1 w [rn w p0, iv p1, rn w p2] M0 ((f_X3_holds w.1 p0 p1 p2 M0).map fun v => (M0, v)) := by
  have hT := hw.1
  refine zCn_ofP (own := RX3) (by decide) rfl hw (Nat.le_of_ble_eq_true rfl) [(0, rn w p0), (1, iv p1), (2, rn w p2)] rfl ?_
  intro κ hl
  subst hl
  unfold f_X3_holds
  refine zv_lconst (z := 1) dX3_holds_0 (by decide) ?_
  refine zv_lstore_np (L' := [(3, jv 1), (0, rn w p0), (1, iv p1), (2, rn w p2)]) (by rfl) dX3_holds_1 (by decide) rfl ?_
  refine zv_rload_n dX3_holds_2 1 rfl ?_
  refine zg_RX3_25 dX3_holds_3 hp0 ?_
  refine zv_iload_n dX3_holds_6 2 rfl ?_
  refine zv_iald dX3_holds_7 (zta_3_4 hT hp0) (ztl_3_4 hT hp0) (by decide) ?_
  refine zv_istore dX3_holds_8 (fun x1 => [(5, iv x1), (3, jv 1), (0, rn w p0), (1, iv p1), (2, rn w p2)]) (by decide) (fun _ => rfl) (fun x1 => ?_)
  refine zv_join1 129 (fun x15 => [(3, jv x15)]) (fun x15 => []) (fun x15 => M0) (zv_sub (L' := [(3, jv 1), (5, iv x1), (0, rn w p0), (1, iv p1), (2, rn w p2)]) [1, 0, 2, 3, 4] rfl (vl_X3_holds_10 hw p0 p1 p2 hp0 hp2 hlp2 M0 _ (fun _ h => h) 1 x1)) (fun x15 => ?_)
  refine zv_lload_n dX3_holds_129 0 rfl ?_
  refine zv_lconst (z := 1) dX3_holds_130 (by decide) ?_
  refine zv_land dX3_holds_131 ?_
  refine zv_lconst (z := 1) dX3_holds_132 (by decide) ?_
  refine zv_lcmp_ne (tgt := 141) dX3_holds_133 dX3_holds_134 (by decide) ?_ ?_
  · refine zv_iconst (z := 0) dX3_holds_141 ?_
    exact zv_ret (fun h => h) (zv_zrB (by decide) dX3_holds_142)
  refine zv_iconst (z := 1) dX3_holds_137 ?_
  refine zv_goto (tgt := 142) dX3_holds_138 (by decide) ?_
  exact zv_ret (fun h => h) (zv_zrB (by decide) dX3_holds_142)
def fb_X3_first_3 (k : zK)  (l0 : Nat) (l1 : Int) (l2 : Nat) (l3 : Int) (M0 : zM) (y4 : Int) : Option ((Int) ⊕ ((Int) ⊕ Int)) :=
  zbr y4 (M0 l0 1) (M0 l0 1 ≤ y4) (some (.inr (.inr l3))) (zgd (0 ≤ y4 ∧ y4 < 40) (zbr (M0 (zfr k l0 2) y4.toNat) l1 (¬ M0 (zfr k l0 2) y4.toNat = l1) (zlt (y4 + 1) (fun x1 => some (.inl (x1)))) (zb1 (f_X3_holds k l0 y4 l2 M0) (fun v2 => zbr v2 0 (v2 = 0) (zlt (y4 + 1) (fun x4 => some (.inl (x4)))) (some (.inr (.inl y4)))))))
def f_X3_first (k : zK)  (p0 : Nat) (p1 : Int) (p2 : Nat) (p3 : Int) (M0 : zM) : Option Int :=
  zsp1 (zw1 (fb_X3_first_3 k p0 p1 p2 p3 M0) zfu 0) (fun r => some ((r))) (fun x5 => zgd (0 ≤ x5 ∧ x5 < 40) (some (M0 (zfr k p0 3) x5.toNat)))
theorem vl_X3_first_3 {κ : zC} {w : zW} (hw : zWk w)  (l0 : Nat) (l1 : Int) (l2 : Nat) (l3 : Int) (g0 : ztag w.1 l0 = 4) (g2 : ztag w.1 l2 = 20) (gl2 : ((zlen w.1 l2 : Nat) : Int) = 8) (M0 : zM) (E : ((Int) ⊕ Int) → Prop) (hX : ∀ (u4 : Int), E (.inl u4) → zB cX3_first RX3 5 (some .int) κ w (0, 0, 2) 33 [(0, rn w l0), (4, iv u4)] [] M0) (hR : ∀ r, E (.inr r) → zRt κ w (0, 0, 2) 1 (M0, r)) (y4 : Int) :
    zV cX3_first RX3 5 (some .int) κ w (0, 0, 2) 3 [(4, iv y4), (0, rn w l0), (1, iv l1), (2, rn w l2), (3, iv l3)] [] M0 (zw1 (fb_X3_first_3 w.1 l0 l1 l2 l3 M0) zfu y4) E := by
  have hT := hw.1
  refine zv_loop1 (fun y4 => [(4, iv y4), (0, rn w l0), (1, iv l1), (2, rn w l2), (3, iv l3)]) (fun y4 => M0) (fun y4 => ?_) y4
  unfold fb_X3_first_3
  refine zv_iload dX3_first_3 0 rfl ?_
  refine zv_rload_n dX3_first_5 1 rfl ?_
  refine zg_RX3_15 dX3_first_6 g0 ?_
  refine zv_icmp_ge (tgt := 47) dX3_first_9 (by decide) ?_ ?_
  · refine zv_iload_n dX3_first_47 4 rfl ?_
    exact zv_ret (fun h => hR _ h) (zv_iret dX3_first_48)
  refine zv_rload_n dX3_first_12 1 rfl ?_
  refine zg_RX3_18 dX3_first_13 g0 ?_
  refine zv_iload dX3_first_16 0 rfl ?_
  refine zv_iald dX3_first_18 (zta_3_2 hT g0) (ztl_3_2 hT g0) (by decide) ?_
  refine zv_iload_n dX3_first_19 2 rfl ?_
  refine zv_icmp_ne (tgt := 41) dX3_first_20 (by decide) ?_ ?_
  · refine zv_iinc dX3_first_41 0 rfl (fun x1 => [(4, iv x1), (0, rn w l0), (1, iv l1), (2, rn w l2), (3, iv l3)]) (by decide) (fun _ => rfl) (fun x1 => ?_)
    refine zv_goto (tgt := 3) dX3_first_44 (by decide) ?_
    exact zv_sub (L' := [(4, iv x1), (0, rn w l0), (1, iv l1), (2, rn w l2), (3, iv l3)]) [0, 1, 2, 3, 4] rfl (zv_exit (fun h => h))
  refine zv_rload_n dX3_first_23 1 rfl ?_
  refine zv_iload dX3_first_24 0 rfl ?_
  refine zv_rload_n dX3_first_26 3 rfl ?_
  refine zv_pc (zv_callVi [iv y4, rn w l2] (c_X3_holds κ.2.1 hw l0 y4 l2 M0 g0 g2 gl2) zmd_X3_holds zwI_X3_holds zwS_X3_holds zwM_RX3_72 zcd_3 g0 rfl (by decide) rfl (Nat.le_of_ble_eq_true rfl) dX3_first_27 (fun mh3 v2 h3 => ?_))
  obtain rfl := zpuE h3
  refine zv_if_eq (tgt := 41) dX3_first_30 (by decide) ?_ ?_
  · refine zv_iinc dX3_first_41 0 rfl (fun x4 => [(4, iv x4), (0, rn w l0), (1, iv l1), (2, rn w l2), (3, iv l3)]) (by decide) (fun _ => rfl) (fun x4 => ?_)
    refine zv_goto (tgt := 3) dX3_first_44 (by decide) ?_
    exact zv_sub (L' := [(4, iv x4), (0, rn w l0), (1, iv l1), (2, rn w l2), (3, iv l3)]) [0, 1, 2, 3, 4] rfl (zv_exit (fun h => h))
  exact zv_sub (L' := [(0, rn w l0), (4, iv y4)]) [1, 0] rfl (zv_exit (fun h => hX _ h))
theorem c_X3_first (l : Launch) {w : zW} (hw : zWk w)  (p0 : Nat) (p1 : Int) (p2 : Nat) (p3 : Int) (M0 : zM) (hp0 : ztag w.1 p0 = 4) (hp2 : ztag w.1 p2 = 20) (hlp2 : ((zlen w.1 p2 : Nat) : Int) = 8) : zCn l yX3_first cX3_first 5 (some .int) (2) 1 w [rn w p0, iv p1, rn w p2, iv p3] M0 ((f_X3_first w.1 p0 p1 p2 p3 M0).map fun v => (M0, v)) := by
  have hT := hw.1
  refine zCn_ofP (own := RX3) (by decide) rfl hw (Nat.le_of_ble_eq_true rfl) [(0, rn w p0), (1, iv p1), (2, rn w p2), (3, iv p3)] rfl ?_
  intro κ hl
  subst hl
  unfold f_X3_first
  refine zv_iconst (z := 0) dX3_first_0 ?_
  refine zv_istore_p (L' := [(4, iv 0), (0, rn w p0), (1, iv p1), (2, rn w p2), (3, iv p3)]) dX3_first_1 (by decide) rfl ?_
  refine zv_joinS1 (fun r => (r)) 33 (fun x5 => [(0, rn w p0), (4, iv x5)]) (fun x5 => []) (fun x5 => M0) (zv_sub (L' := [(4, iv 0), (0, rn w p0), (1, iv p1), (2, rn w p2), (3, iv p3)]) [0, 1, 2, 3, 4] rfl (vl_X3_first_3 hw p0 p1 p2 p3 hp0 hp2 hlp2 M0 _ (fun _ h => ((fun h => h)) h) (fun _ h => ((fun h => h)) h) 0)) (fun x5 => ?_)
  refine zv_rload_n dX3_first_33 0 rfl ?_
  refine zg_RX3_22 dX3_first_34 hp0 ?_
  refine zv_iload dX3_first_37 1 rfl ?_
  refine zv_iald dX3_first_39 (zta_3_3 hT hp0) (ztl_3_3 hT hp0) (by decide) ?_
  exact zv_ret (fun h => h) (zv_iret dX3_first_40)
def fb_X2_survey_2 (k : zK)  (l0 : Nat) (l1 : Nat) (l2 : Nat) (y3 : Int) (M0 : zM) : Option ((Int × zM) ⊕ (zM)) :=
  zbr y3 256 (256 ≤ y3) (some (.inr M0)) (zgd (0 ≤ y3 ∧ y3 ≤ 2147483647) (zgd (0 ≤ (0 : Int) ∧ (0 : Int) < 8) (zlt (zst M0 (zfr k l0 10) (Int.toNat 0) (y3 % 16)) (fun M1 => zgd (0 ≤ y3 ∧ y3 ≤ 2147483647) (zgd (0 ≤ (1 : Int) ∧ (1 : Int) < 8) (zlt (zst M1 (zfr k l0 10) (Int.toNat 1) (y3 / 16)) (fun M2 => zb1 (f_X3_first k l2 1 (zfr k l0 10) 0 M2) (fun v3 => zgd (0 ≤ y3 ∧ y3 < 256) (zlt (zst M2 (zfr k l0 0) y3.toNat (v3)) (fun M5 => zgd (0 ≤ y3 ∧ y3 < 256) (zgd (0 ≤ y3 ∧ y3 < 256) (zgd (zr 99 ∧ zr ((M5 (zfr k l1 0) y3.toNat) + (M5 (zfr k l0 0) y3.toNat))) (zgd (0 ≤ y3 ∧ y3 < 256) (zlt (zst M5 (zfr k l0 1) y3.toNat (zmin 99 ((M5 (zfr k l1 0) y3.toNat) + (M5 (zfr k l0 0) y3.toNat)))) (fun M6 => zgd (0 ≤ y3 ∧ y3 < 256) (zgd (0 ≤ y3 ∧ y3 < 256) (zgd (zr 99 ∧ zr ((M6 (zfr k l1 1) y3.toNat) + (M6 (zfr k l0 0) y3.toNat))) (zgd (0 ≤ y3 ∧ y3 < 256) (zlt (zst M6 (zfr k l0 2) y3.toNat (zmin 99 ((M6 (zfr k l1 1) y3.toNat) + (M6 (zfr k l0 0) y3.toNat)))) (fun M7 => zgd (0 ≤ y3 ∧ y3 < 256) (zgd (0 ≤ y3 ∧ y3 < 256) (zgd (0 ≤ y3 ∧ y3 < 256) (zlt (zst M7 (zfr k l0 3) y3.toNat ((M7 (zfr k l0 1) y3.toNat) + (M7 (zfr k l0 2) y3.toNat))) (fun M8 => zlt (y3 + 1) (fun x9 => some (.inl (x9, M8)))))))))))))))))))))))))))
def fb_X2_survey_120 (k : zK)  (l0 : Nat) (y3 : Int) (M0 : zM) : Option ((Int × zM) ⊕ (zM)) :=
  zbr y3 256 (256 ≤ y3) (some (.inr M0)) (zb1 (f_X2_lowestBeside k l0 y3 M0) (fun v11 => zgd (0 ≤ y3 ∧ y3 < 256) (zlt (zst M0 (zfr k l0 4) y3.toNat (v11)) (fun M13 => zb1 (f_X2_countHigherRound k l0 y3 M13) (fun v14 => zgd (0 ≤ y3 ∧ y3 < 256) (zlt (zst M13 (zfr k l0 6) y3.toNat (v14)) (fun M16 => zlt (y3 + 1) (fun x17 => some (.inl (x17, M16))))))))))
def f_X2_survey (k : zK)  (p0 : Nat) (p1 : Nat) (p2 : Nat) (M0 : zM) : Option zM :=
  zb1 (zw2 (fb_X2_survey_2 k p0 p1 p2) zfu 0 M0) (fun M10 => zb1 (zw2 (fb_X2_survey_120 k p0) zfu 0 M10) (fun M18 => zb1 (f_X2_sortByMiddle k p0 M18) (fun M19 => zb1 (f_X2_runWater k p0 M19) (fun M20 => some M20))))
set_option maxRecDepth 20000 in
theorem vl_X2_survey_2 {κ : zC} {w : zW} (hw : zWk w)  (l0 : Nat) (l1 : Nat) (l2 : Nat) (g0 : ztag w.1 l0 = 3) (g1 : ztag w.1 l1 = 8) (g2 : ztag w.1 l2 = 4)  (E : (zM) → Prop) (hX : ∀  (M1 : zM), E M1 → zB cX2_survey RX2 4 none κ w (0, 0, 3) 118 [(0, rn w l0)] [] M1)  (y3 : Int) (M0 : zM) :
    zV cX2_survey RX2 4 none κ w (0, 0, 3) 2 [(3, iv y3), (0, rn w l0), (1, rn w l1), (2, rn w l2)] [] M0 (zw2 (fb_X2_survey_2 w.1 l0 l1 l2) zfu y3 M0) E := by
  have hT := hw.1
  refine zv_loop2 (fun y3 M0 => [(3, iv y3), (0, rn w l0), (1, rn w l1), (2, rn w l2)]) (fun y3 M0 => M0) (fun y3 M0 => ?_) y3 M0
  unfold fb_X2_survey_2
  refine zv_iload_n dX2_survey_2 0 rfl ?_
  refine zv_sipush (z := 256) dX2_survey_3 (by decide) ?_
  refine zv_icmp_ge (tgt := 118) dX2_survey_6 (by decide) ?_ ?_
  · exact zv_sub (L' := [(0, rn w l0)]) [1] rfl (zv_exit (fun h => hX _ h))
  refine zv_rload_n dX2_survey_9 1 rfl ?_
  refine zg_RX2_42 dX2_survey_10 g0 ?_
  refine zv_iconst (z := 0) dX2_survey_13 ?_
  refine zv_iload_n dX2_survey_14 0 rfl ?_
  refine zv_bipush (z := 16) dX2_survey_15 (by decide) ?_
  refine zv_iremc (by decide) dX2_survey_17 ?_
  refine zv_iast dX2_survey_18 (zta_2_10 hT g0) (ztl_2_10 hT g0) (by decide) (fun M1 => ?_)
  refine zv_rload_n dX2_survey_19 1 rfl ?_
  refine zg_RX2_42 dX2_survey_20 g0 ?_
  refine zv_iconst (z := 1) dX2_survey_23 ?_
  refine zv_iload_n dX2_survey_24 0 rfl ?_
  refine zv_bipush (z := 16) dX2_survey_25 (by decide) ?_
  refine zv_idivc (by decide) dX2_survey_27 ?_
  refine zv_iast dX2_survey_28 (zta_2_10 hT g0) (ztl_2_10 hT g0) (by decide) (fun M2 => ?_)
  refine zv_rload_n dX2_survey_29 1 rfl ?_
  refine zg_RX2_9 dX2_survey_30 g0 ?_
  refine zv_iload_n dX2_survey_33 0 rfl ?_
  refine zv_rload_n dX2_survey_34 3 rfl ?_
  refine zv_iconst (z := 1) dX2_survey_35 ?_
  refine zv_rload_n dX2_survey_36 1 rfl ?_
  refine zg_RX2_42 dX2_survey_37 g0 ?_
  refine zv_iconst (z := 0) dX2_survey_40 ?_
  refine zv_pc (zv_callVi [iv 1, rn w (zfr w.1 l0 10), iv 0] (c_X3_first κ.2.1 hw l2 1 (zfr w.1 l0 10) 0 M2 g2 (zta_2_10 hT g0) (ztl_2_10 hT g0)) zmd_X3_first zwI_X3_first zwS_X3_first zwM_RX2_45 zcd_3 g2 rfl (by decide) rfl (Nat.le_of_ble_eq_true rfl) dX2_survey_41 (fun mh4 v3 h4 => ?_))
  obtain rfl := zpuE h4
  refine zv_iast dX2_survey_44 (zta_2_0 hT g0) (ztl_2_0 hT g0) (by decide) (fun M5 => ?_)
  refine zv_rload_n dX2_survey_45 1 rfl ?_
  refine zg_RX2_15 dX2_survey_46 g0 ?_
  refine zv_iload_n dX2_survey_49 0 rfl ?_
  refine zv_bipush (z := 99) dX2_survey_50 (by decide) ?_
  refine zv_rload_n dX2_survey_52 2 rfl ?_
  refine zg_RX2_51 dX2_survey_53 g1 ?_
  refine zv_iload_n dX2_survey_56 0 rfl ?_
  refine zv_iald dX2_survey_57 (zta_7_0 hT g1) (ztl_7_0 hT g1) (by decide) ?_
  refine zv_rload_n dX2_survey_58 1 rfl ?_
  refine zg_RX2_9 dX2_survey_59 g0 ?_
  refine zv_iload_n dX2_survey_62 0 rfl ?_
  refine zv_iald dX2_survey_63 (zta_2_0 hT g0) (ztl_2_0 hT g0) (by decide) ?_
  refine zv_iadd dX2_survey_64 ?_
  refine zv_mmin zwM_RX2_54 (by decide) (Nat.le_of_ble_eq_true rfl) dX2_survey_65 ?_
  refine zv_iast dX2_survey_68 (zta_2_1 hT g0) (ztl_2_1 hT g0) (by decide) (fun M6 => ?_)
  refine zv_rload_n dX2_survey_69 1 rfl ?_
  refine zg_RX2_18 dX2_survey_70 g0 ?_
  refine zv_iload_n dX2_survey_73 0 rfl ?_
  refine zv_bipush (z := 99) dX2_survey_74 (by decide) ?_
  refine zv_rload_n dX2_survey_76 2 rfl ?_
  refine zg_RX2_60 dX2_survey_77 g1 ?_
  refine zv_iload_n dX2_survey_80 0 rfl ?_
  refine zv_iald dX2_survey_81 (zta_7_1 hT g1) (ztl_7_1 hT g1) (by decide) ?_
  refine zv_rload_n dX2_survey_82 1 rfl ?_
  refine zg_RX2_9 dX2_survey_83 g0 ?_
  refine zv_iload_n dX2_survey_86 0 rfl ?_
  refine zv_iald dX2_survey_87 (zta_2_0 hT g0) (ztl_2_0 hT g0) (by decide) ?_
  refine zv_iadd dX2_survey_88 ?_
  refine zv_mmin zwM_RX2_54 (by decide) (Nat.le_of_ble_eq_true rfl) dX2_survey_89 ?_
  refine zv_iast dX2_survey_92 (zta_2_2 hT g0) (ztl_2_2 hT g0) (by decide) (fun M7 => ?_)
  refine zv_rload_n dX2_survey_93 1 rfl ?_
  refine zg_RX2_21 dX2_survey_94 g0 ?_
  refine zv_iload_n dX2_survey_97 0 rfl ?_
  refine zv_rload_n dX2_survey_98 1 rfl ?_
  refine zg_RX2_15 dX2_survey_99 g0 ?_
  refine zv_iload_n dX2_survey_102 0 rfl ?_
  refine zv_iald dX2_survey_103 (zta_2_1 hT g0) (ztl_2_1 hT g0) (by decide) ?_
  refine zv_rload_n dX2_survey_104 1 rfl ?_
  refine zg_RX2_18 dX2_survey_105 g0 ?_
  refine zv_iload_n dX2_survey_108 0 rfl ?_
  refine zv_iald dX2_survey_109 (zta_2_2 hT g0) (ztl_2_2 hT g0) (by decide) ?_
  refine zv_iadd dX2_survey_110 ?_
  refine zv_iast dX2_survey_111 (zta_2_3 hT g0) (ztl_2_3 hT g0) (by decide) (fun M8 => ?_)
  refine zv_iinc dX2_survey_112 0 rfl (fun x9 => [(3, iv x9), (0, rn w l0), (1, rn w l1), (2, rn w l2)]) (by decide) (fun _ => rfl) (fun x9 => ?_)
  refine zv_goto (tgt := 2) dX2_survey_115 (by decide) ?_
  exact zv_sub (L' := [(3, iv x9), (0, rn w l0), (1, rn w l1), (2, rn w l2)]) [0, 1, 2, 3] rfl (zv_exit (fun h => h))
theorem vl_X2_survey_120 {κ : zC} {w : zW} (hw : zWk w)  (l0 : Nat) (g0 : ztag w.1 l0 = 3)  (E : (zM) → Prop) (hX : ∀  (M1 : zM), E M1 → zB cX2_survey RX2 4 none κ w (0, 0, 3) 155 [(0, rn w l0)] [] M1)  (y3 : Int) (M0 : zM) :
    zV cX2_survey RX2 4 none κ w (0, 0, 3) 120 [(3, iv y3), (0, rn w l0)] [] M0 (zw2 (fb_X2_survey_120 w.1 l0) zfu y3 M0) E := by
  have hT := hw.1
  refine zv_loop2 (fun y3 M0 => [(3, iv y3), (0, rn w l0)]) (fun y3 M0 => M0) (fun y3 M0 => ?_) y3 M0
  unfold fb_X2_survey_120
  refine zv_iload_n dX2_survey_120 0 rfl ?_
  refine zv_sipush (z := 256) dX2_survey_121 (by decide) ?_
  refine zv_icmp_ge (tgt := 155) dX2_survey_124 (by decide) ?_ ?_
  · exact zv_sub (L' := [(0, rn w l0)]) [1] rfl (zv_exit (fun h => hX _ h))
  refine zv_rload_n dX2_survey_127 1 rfl ?_
  refine zg_RX2_24 dX2_survey_128 g0 ?_
  refine zv_iload_n dX2_survey_131 0 rfl ?_
  refine zv_rload_n dX2_survey_132 1 rfl ?_
  refine zv_iload_n dX2_survey_133 0 rfl ?_
  refine zv_pc (zv_callVi [iv y3] (c_X2_lowestBeside κ.2.1 hw l0 y3 M0 g0) zmd_X2_lowestBeside zwI_X2_lowestBeside zwS_X2_lowestBeside zwM_RX2_61 zcd_2 g0 rfl (by decide) rfl (Nat.le_of_ble_eq_true rfl) dX2_survey_134 (fun mh12 v11 h12 => ?_))
  obtain rfl := zpuE h12
  refine zv_iast dX2_survey_137 (zta_2_4 hT g0) (ztl_2_4 hT g0) (by decide) (fun M13 => ?_)
  refine zv_rload_n dX2_survey_138 1 rfl ?_
  refine zg_RX2_30 dX2_survey_139 g0 ?_
  refine zv_iload_n dX2_survey_142 0 rfl ?_
  refine zv_rload_n dX2_survey_143 1 rfl ?_
  refine zv_iload_n dX2_survey_144 0 rfl ?_
  refine zv_pc (zv_callVi [iv y3] (c_X2_countHigherRound κ.2.1 hw l0 y3 M13 g0) zmd_X2_countHigherRound zwI_X2_countHigherRound zwS_X2_countHigherRound zwM_RX2_65 zcd_2 g0 rfl (by decide) rfl (Nat.le_of_ble_eq_true rfl) dX2_survey_145 (fun mh15 v14 h15 => ?_))
  obtain rfl := zpuE h15
  refine zv_iast dX2_survey_148 (zta_2_6 hT g0) (ztl_2_6 hT g0) (by decide) (fun M16 => ?_)
  refine zv_iinc dX2_survey_149 0 rfl (fun x17 => [(3, iv x17), (0, rn w l0)]) (by decide) (fun _ => rfl) (fun x17 => ?_)
  refine zv_goto (tgt := 120) dX2_survey_152 (by decide) ?_
  exact zv_sub (L' := [(3, iv x17), (0, rn w l0)]) [0, 1] rfl (zv_exit (fun h => h))
theorem c_X2_survey (l : Launch) {w : zW} (hw : zWk w)  (p0 : Nat) (p1 : Nat) (p2 : Nat) (M0 : zM) (hp0 : ztag w.1 p0 = 3) (hp1 : ztag w.1 p1 = 8) (hp2 : ztag w.1 p2 = 4) : zCn l yX2_survey cX2_survey 4 none (3) 0 w [rn w p0, rn w p1, rn w p2] M0 ((f_X2_survey w.1 p0 p1 p2 M0).map fun m => (m, (0 : Int))) := by
  have hT := hw.1
  refine zCn_ofV (own := RX2) (by decide) rfl hw (Nat.le_of_ble_eq_true rfl) [(0, rn w p0), (1, rn w p1), (2, rn w p2)] rfl ?_
  intro κ hl
  subst hl
  unfold f_X2_survey
  refine zv_iconst (z := 0) dX2_survey_0 ?_
  refine zv_istore_np (L' := [(3, iv 0), (0, rn w p0), (1, rn w p1), (2, rn w p2)]) (by rfl) dX2_survey_1 (by decide) rfl ?_
  refine zv_join1 118 (fun M10 => [(0, rn w p0)]) (fun M10 => []) (fun M10 => M10) (zv_sub (L' := [(3, iv 0), (0, rn w p0), (1, rn w p1), (2, rn w p2)]) [0, 1, 2, 3] rfl (vl_X2_survey_2 hw p0 p1 p2 hp0 hp1 hp2 _ (fun _ h => h) 0 M0)) (fun M10 => ?_)
  refine zv_iconst (z := 0) dX2_survey_118 ?_
  refine zv_istore_np (L' := [(3, iv 0), (0, rn w p0)]) (by rfl) dX2_survey_119 (by decide) rfl ?_
  refine zv_join1 155 (fun M18 => [(0, rn w p0)]) (fun M18 => []) (fun M18 => M18) (zv_sub (L' := [(3, iv 0), (0, rn w p0)]) [0, 1] rfl (vl_X2_survey_120 hw p0 hp0 _ (fun _ h => h) 0 M10)) (fun M18 => ?_)
  refine zv_rload_n dX2_survey_155 0 rfl ?_
  refine zv_vc (zv_callVv [] (c_X2_sortByMiddle κ.2.1 hw p0 M18 hp0) zmd_X2_sortByMiddle zwI_X2_sortByMiddle zwS_X2_sortByMiddle zwM_RX2_68 zcd_2 hp0 rfl (by decide) rfl (Nat.le_of_ble_eq_true rfl) dX2_survey_156 (fun M19 _ _ => ?_))
  refine zv_rload_n dX2_survey_159 0 rfl ?_
  refine zv_vc (zv_callVv [] (c_X2_runWater κ.2.1 hw p0 M19 hp0) zmd_X2_runWater zwI_X2_runWater zwS_X2_runWater zwM_RX2_71 zcd_2 hp0 rfl (by decide) rfl (Nat.le_of_ble_eq_true rfl) dX2_survey_160 (fun M20 _ _ => ?_))
  exact zv_ret (fun h => h) (zv_vret (v := 0) dX2_survey_163)
def f_X4_forget (k : zK)  (p0 : Nat) (M0 : zM) : Option zM :=
  zb1 (f_J7_fill_53178 k (zfr k p0 0) (-1) M0) (fun M1 => some M1)
theorem c_X4_forget (l : Launch) {w : zW} (hw : zWk w)  (p0 : Nat) (M0 : zM) (hp0 : ztag w.1 p0 = 5) : zCn l yX4_forget cX4_forget 1 none (1) 0 w [rn w p0] M0 ((f_X4_forget w.1 p0 M0).map fun m => (m, (0 : Int))) := by
  have hT := hw.1
  refine zCn_ofV (own := RX4) (by decide) rfl hw (Nat.le_of_ble_eq_true rfl) [(0, rn w p0)] rfl ?_
  intro κ hl
  subst hl
  unfold f_X4_forget
  refine zv_rload_n dX4_forget_0 0 rfl ?_
  refine zg_RX4_9 dX4_forget_1 hp0 ?_
  refine zv_iconst (z := (-1)) dX4_forget_4 ?_
  refine zv_vc (zv_callSv [rn w (zfr w.1 p0 0), iv (-1)] (c_J7_fill_53178 κ.2.1 hw (zfr w.1 p0 0) (-1) M0 (zta_4_0 hT hp0) (ztl_4_0 hT hp0)) zmd_J7_fill_53178 zwT_J7_fill_53178 zwM_RX4_22 rfl (by decide) rfl (Nat.le_of_ble_eq_true rfl) dX4_forget_5 (fun M1 _ _ => ?_))
  exact zv_ret (fun h => h) (zv_vret (v := 0) dX4_forget_8)
def f_X8_forget (k : zK)  (p0 : Nat) (M0 : zM) : Option zM :=
  zlt (zst M0 p0 6 (-1)) (fun M1 => some M1)
theorem c_X8_forget (l : Launch) {w : zW} (hw : zWk w)  (p0 : Nat) (M0 : zM) (hp0 : ztag w.1 p0 = 9) : zCn l yX8_forget cX8_forget 1 none (0) 0 w [rn w p0] M0 ((f_X8_forget w.1 p0 M0).map fun m => (m, (0 : Int))) := by
  have hT := hw.1
  refine zCn_ofV (own := RX8) (by decide) rfl hw (Nat.le_of_ble_eq_true rfl) [(0, rn w p0)] rfl ?_
  intro κ hl
  subst hl
  unfold f_X8_forget
  refine zv_rload_n dX8_forget_0 0 rfl ?_
  refine zv_iconst (z := (-1)) dX8_forget_1 ?_
  refine zp_RX8_35 dX8_forget_2 hp0 (fun M1 => ?_)
  exact zv_ret (fun h => h) (zv_vret (v := 0) dX8_forget_5)
def f_X10_settle (k : zK)  (p0 : Nat) (M0 : zM) : Option zM :=
  zbr (M0 p0 14) 0 (M0 p0 14 = 0) (some M0) (zgd (ztag k (M0 p0 10).toNat = 4 ∧ (M0 p0 10).toNat ≠ 0) (zlt (M0 p0 10).toNat (fun q1 => zb1 (f_X2_survey k (zfr k p0 4) (zfr k p0 1) q1 M0) (fun M3 => zb1 (f_X8_forget k (zfr k p0 3) M3) (fun M4 => zb1 (f_X4_forget k (zfr k p0 5) M4) (fun M5 => zgd ((0 : Int) = 0 ∨ (0 : Int) = 1) (zlt (zst M5 p0 14 0) (fun M6 => some M6))))))))
theorem c_X10_settle (l : Launch) {w : zW} (hw : zWk w)  (p0 : Nat) (M0 : zM) (hp0 : ztag w.1 p0 = 11) : zCn l yX10_settle cX10_settle 1 none (4) 0 w [rn w p0] M0 ((f_X10_settle w.1 p0 M0).map fun m => (m, (0 : Int))) := by
  have hT := hw.1
  refine zCn_ofV (own := RX10) (by decide) rfl hw (Nat.le_of_ble_eq_true rfl) [(0, rn w p0)] rfl ?_
  intro κ hl
  subst hl
  unfold f_X10_settle
  refine zv_rload_n dX10_settle_0 0 rfl ?_
  refine zg_RX10_88 dX10_settle_1 hp0 ?_
  refine zv_if_eq (tgt := 41) dX10_settle_4 (by decide) ?_ ?_
  · exact zv_ret (fun h => h) (zv_vret (v := 0) dX10_settle_41)
  refine zv_rload_n dX10_settle_7 0 rfl ?_
  refine zg_RX10_38 dX10_settle_8 hp0 ?_
  refine zv_rload_n dX10_settle_11 0 rfl ?_
  refine zg_RX10_19 dX10_settle_12 hp0 ?_
  refine zv_rload_n dX10_settle_15 0 rfl ?_
  refine zg_RX10_74 dX10_settle_16 hp0 (fun q1 h2 => ?_)
  refine zv_vc (zv_callVv [rn w (zfr w.1 p0 1), rn w q1] (c_X2_survey κ.2.1 hw (zfr w.1 p0 4) (zfr w.1 p0 1) q1 M0 (zta_10_4 hT hp0) (zta_10_1 hT hp0) h2) zmd_X2_survey zwI_X2_survey zwS_X2_survey zwM_RX10_427 zcd_2 (zta_10_4 hT hp0) rfl (by decide) rfl (Nat.le_of_ble_eq_true rfl) dX10_settle_19 (fun M3 _ _ => ?_))
  refine zv_rload_n dX10_settle_22 0 rfl ?_
  refine zg_RX10_30 dX10_settle_23 hp0 ?_
  refine zv_vc (zv_callVv [] (c_X8_forget κ.2.1 hw (zfr w.1 p0 3) M3 (zta_10_3 hT hp0)) zmd_X8_forget zwI_X8_forget zwS_X8_forget zwM_RX10_431 zcd_8 (zta_10_3 hT hp0) rfl (by decide) rfl (Nat.le_of_ble_eq_true rfl) dX10_settle_26 (fun M4 _ _ => ?_))
  refine zv_rload_n dX10_settle_29 0 rfl ?_
  refine zg_RX10_42 dX10_settle_30 hp0 ?_
  refine zv_vc (zv_callVv [] (c_X4_forget κ.2.1 hw (zfr w.1 p0 5) M4 (zta_10_5 hT hp0)) zmd_X4_forget zwI_X4_forget zwS_X4_forget zwM_RX10_432 zcd_4 (zta_10_5 hT hp0) rfl (by decide) rfl (Nat.le_of_ble_eq_true rfl) dX10_settle_33 (fun M5 _ _ => ?_))
  refine zv_rload_n dX10_settle_36 0 rfl ?_
  refine zv_iconst (z := 0) dX10_settle_37 ?_
  refine zp_RX10_88 dX10_settle_38 hp0 (fun M6 => ?_)
  exact zv_ret (fun h => h) (zv_vret (v := 0) dX10_settle_41)
def f_X3_bothLevels (k : zK)  (p0 : Nat) (p1 : Int) (M0 : zM) : Option Int :=
  zgd (0 ≤ p1 ∧ p1 < 100) (zgd (0 ≤ p1 ∧ p1 < 100) (some ((M0 (zfr k p0 8) p1.toNat) + (M0 (zfr k p0 9) p1.toNat))))
theorem c_X3_bothLevels (l : Launch) {w : zW} (hw : zWk w)  (p0 : Nat) (p1 : Int) (M0 : zM) (hp0 : ztag w.1 p0 = 4) : zCn l yX3_bothLevels cX3_bothLevels 2 (some .int) (0) 1 w [rn w p0, iv p1] M0 ((f_X3_bothLevels w.1 p0 p1 M0).map fun v => (M0, v)) := by
  have hT := hw.1
  refine zCn_ofP (own := RX3) (by decide) rfl hw (Nat.le_of_ble_eq_true rfl) [(0, rn w p0), (1, iv p1)] rfl ?_
  intro κ hl
  subst hl
  unfold f_X3_bothLevels
  refine zv_rload_n dX3_bothLevels_0 0 rfl ?_
  refine zg_RX3_37 dX3_bothLevels_1 hp0 ?_
  refine zv_iload_n dX3_bothLevels_4 1 rfl ?_
  refine zv_iald dX3_bothLevels_5 (zta_3_8 hT hp0) (ztl_3_8 hT hp0) (by decide) ?_
  refine zv_rload_n dX3_bothLevels_6 0 rfl ?_
  refine zg_RX3_40 dX3_bothLevels_7 hp0 ?_
  refine zv_iload_n dX3_bothLevels_10 1 rfl ?_
  refine zv_iald dX3_bothLevels_11 (zta_3_9 hT hp0) (ztl_3_9 hT hp0) (by decide) ?_
  refine zv_iadd dX3_bothLevels_12 ?_
  exact zv_ret (fun h => h) (zv_iret dX3_bothLevels_13)
def f_X8_heightOf (k : zK)  (p0 : Nat) (p1 : Int) (M0 : zM) : Option Int :=
  zgd (0 ≤ p1 ∧ p1 < 256) (zbr (M0 (zfr k p0 0) p1.toNat) 0 (M0 (zfr k p0 0) p1.toNat = 0) (some 0) (zgd (0 ≤ p1 ∧ p1 < 256) (zgd (0 ≤ (M0 (zfr k (zfr k p0 2) 3) p1.toNat) - (M0 p0 6) ∧ (M0 (zfr k (zfr k p0 2) 3) p1.toNat) - (M0 p0 6) ≤ 2147483647) (some (((M0 (zfr k (zfr k p0 2) 3) p1.toNat) - (M0 p0 6)) / 2)))))
theorem c_X8_heightOf (l : Launch) {w : zW} (hw : zWk w)  (p0 : Nat) (p1 : Int) (M0 : zM) (hp0 : ztag w.1 p0 = 9) : zCn l yX8_heightOf cX8_heightOf 2 (some .int) (0) 1 w [rn w p0, iv p1] M0 ((f_X8_heightOf w.1 p0 p1 M0).map fun v => (M0, v)) := by
  have hT := hw.1
  refine zCn_ofP (own := RX8) (by decide) rfl hw (Nat.le_of_ble_eq_true rfl) [(0, rn w p0), (1, iv p1)] rfl ?_
  intro κ hl
  subst hl
  unfold f_X8_heightOf
  refine zv_rload_n dX8_heightOf_0 0 rfl ?_
  refine zg_RX8_9 dX8_heightOf_1 hp0 ?_
  refine zv_iload_n dX8_heightOf_4 1 rfl ?_
  refine zv_zald dX8_heightOf_5 (zta_8_0 hT hp0) (ztl_8_0 hT hp0) (by decide) ?_
  refine zv_if_eq (tgt := 28) dX8_heightOf_6 (by decide) ?_ ?_
  · refine zv_iconst (z := 0) dX8_heightOf_28 ?_
    exact zv_ret (fun h => h) (zv_iret dX8_heightOf_29)
  refine zv_rload_n dX8_heightOf_9 0 rfl ?_
  refine zg_RX8_22 dX8_heightOf_10 hp0 ?_
  refine zg_RX8_39 dX8_heightOf_13 (zta_8_2 hT hp0) ?_
  refine zv_iload_n dX8_heightOf_16 1 rfl ?_
  refine zv_iald dX8_heightOf_17 (zta_2_3 hT (zta_8_2 hT hp0)) (ztl_2_3 hT (zta_8_2 hT hp0)) (by decide) ?_
  refine zv_rload_n dX8_heightOf_18 0 rfl ?_
  refine zg_RX8_35 dX8_heightOf_19 hp0 ?_
  refine zv_isub dX8_heightOf_22 ?_
  refine zv_iconst (z := 2) dX8_heightOf_23 ?_
  refine zv_idivc (by decide) dX8_heightOf_24 ?_
  refine zv_goto (tgt := 29) dX8_heightOf_25 (by decide) ?_
  exact zv_ret (fun h => h) (zv_iret dX8_heightOf_29)
def f_X8_wordsOf (k : zK)  (p0 : Nat) (p1 : Int) (p2 : Int) (M0 : zM) : Option (zM × Int) :=
  zgd (0 ≤ p1 ∧ p1 ≤ 2147483647) (zgd (0 ≤ (0 : Int) ∧ (0 : Int) < 8) (zlt (zst M0 (zfr k p0 4) (Int.toNat 0) (p1 % 16)) (fun M1 => zgd (0 ≤ p1 ∧ p1 ≤ 2147483647) (zgd (0 ≤ (1 : Int) ∧ (1 : Int) < 8) (zlt (zst M1 (zfr k p0 4) (Int.toNat 1) (p1 / 16)) (fun M2 => zgd (0 ≤ (2 : Int) ∧ (2 : Int) < 8) (zlt (zst M2 (zfr k p0 4) (Int.toNat 2) (p2)) (fun M3 => zb1 (f_X8_heightOf k p0 p1 M3) (fun v4 => zgd (0 ≤ (3 : Int) ∧ (3 : Int) < 8) (zlt (zst M3 (zfr k p0 4) (Int.toNat 3) (v4)) (fun M6 => zgd (0 ≤ p1 ∧ p1 < 256) (zgd (0 ≤ (4 : Int) ∧ (4 : Int) < 8) (zlt (zst M6 (zfr k p0 4) (Int.toNat 4) (M6 (zfr k (zfr k p0 2) 5) p1.toNat)) (fun M7 => zgd (0 ≤ p1 ∧ p1 < 256) (zgd (0 ≤ (5 : Int) ∧ (5 : Int) < 8) (zlt (zst M7 (zfr k p0 4) (Int.toNat 5) (M7 (zfr k p0 1) p1.toNat)) (fun M8 => zgd (0 ≤ p1 ∧ p1 < 256) (zgd (0 ≤ (6 : Int) ∧ (6 : Int) < 8) (zlt (zst M8 (zfr k p0 4) (Int.toNat 6) (M8 (zfr k (zfr k p0 2) 6) p1.toNat)) (fun M9 => some (M9, ((zfr k p0 4) : Int))))))))))))))))))))))
set_option maxRecDepth 20000 in
theorem c_X8_wordsOf (l : Launch) {w : zW} (hw : zWk w)  (p0 : Nat) (p1 : Int) (p2 : Int) (M0 : zM) (hp0 : ztag w.1 p0 = 9) : zCn l yX8_wordsOf cX8_wordsOf 3 (some (.array .int)) (1) 3 w [rn w p0, iv p1, iv p2] M0 (f_X8_wordsOf w.1 p0 p1 p2 M0) := by
  have hT := hw.1
  refine zCn_of (own := RX8) (by decide) rfl hw (Nat.le_of_ble_eq_true rfl) [(0, rn w p0), (1, iv p1), (2, iv p2)] rfl ?_
  intro κ hl
  subst hl
  unfold f_X8_wordsOf
  refine zv_rload_n dX8_wordsOf_0 0 rfl ?_
  refine zg_RX8_29 dX8_wordsOf_1 hp0 ?_
  refine zv_iconst (z := 0) dX8_wordsOf_4 ?_
  refine zv_iload_n dX8_wordsOf_5 1 rfl ?_
  refine zv_bipush (z := 16) dX8_wordsOf_6 (by decide) ?_
  refine zv_iremc (by decide) dX8_wordsOf_8 ?_
  refine zv_iast dX8_wordsOf_9 (zta_8_4 hT hp0) (ztl_8_4 hT hp0) (by decide) (fun M1 => ?_)
  refine zv_rload_n dX8_wordsOf_10 0 rfl ?_
  refine zg_RX8_29 dX8_wordsOf_11 hp0 ?_
  refine zv_iconst (z := 1) dX8_wordsOf_14 ?_
  refine zv_iload_n dX8_wordsOf_15 1 rfl ?_
  refine zv_bipush (z := 16) dX8_wordsOf_16 (by decide) ?_
  refine zv_idivc (by decide) dX8_wordsOf_18 ?_
  refine zv_iast dX8_wordsOf_19 (zta_8_4 hT hp0) (ztl_8_4 hT hp0) (by decide) (fun M2 => ?_)
  refine zv_rload_n dX8_wordsOf_20 0 rfl ?_
  refine zg_RX8_29 dX8_wordsOf_21 hp0 ?_
  refine zv_iconst (z := 2) dX8_wordsOf_24 ?_
  refine zv_iload_n dX8_wordsOf_25 2 rfl ?_
  refine zv_iast dX8_wordsOf_26 (zta_8_4 hT hp0) (ztl_8_4 hT hp0) (by decide) (fun M3 => ?_)
  refine zv_rload_n dX8_wordsOf_27 0 rfl ?_
  refine zg_RX8_29 dX8_wordsOf_28 hp0 ?_
  refine zv_iconst (z := 3) dX8_wordsOf_31 ?_
  refine zv_rload_n dX8_wordsOf_32 0 rfl ?_
  refine zv_iload_n dX8_wordsOf_33 1 rfl ?_
  refine zv_pc (zv_callVi [iv p1] (c_X8_heightOf κ.2.1 hw p0 p1 M3 hp0) zmd_X8_heightOf zwI_X8_heightOf zwS_X8_heightOf zwM_RX8_50 zcd_8 hp0 rfl (by decide) rfl (Nat.le_of_ble_eq_true rfl) dX8_wordsOf_34 (fun mh5 v4 h5 => ?_))
  obtain rfl := zpuE h5
  refine zv_iast dX8_wordsOf_37 (zta_8_4 hT hp0) (ztl_8_4 hT hp0) (by decide) (fun M6 => ?_)
  refine zv_rload_n dX8_wordsOf_38 0 rfl ?_
  refine zg_RX8_29 dX8_wordsOf_39 hp0 ?_
  refine zv_iconst (z := 4) dX8_wordsOf_42 ?_
  refine zv_rload_n dX8_wordsOf_43 0 rfl ?_
  refine zg_RX8_22 dX8_wordsOf_44 hp0 ?_
  refine zg_RX8_54 dX8_wordsOf_47 (zta_8_2 hT hp0) ?_
  refine zv_iload_n dX8_wordsOf_50 1 rfl ?_
  refine zv_iald dX8_wordsOf_51 (zta_2_5 hT (zta_8_2 hT hp0)) (ztl_2_5 hT (zta_8_2 hT hp0)) (by decide) ?_
  refine zv_iast dX8_wordsOf_52 (zta_8_4 hT hp0) (ztl_8_4 hT hp0) (by decide) (fun M7 => ?_)
  refine zv_rload_n dX8_wordsOf_53 0 rfl ?_
  refine zg_RX8_29 dX8_wordsOf_54 hp0 ?_
  refine zv_iconst (z := 5) dX8_wordsOf_57 ?_
  refine zv_rload_n dX8_wordsOf_58 0 rfl ?_
  refine zg_RX8_15 dX8_wordsOf_59 hp0 ?_
  refine zv_iload_n dX8_wordsOf_62 1 rfl ?_
  refine zv_iald dX8_wordsOf_63 (zta_8_1 hT hp0) (ztl_8_1 hT hp0) (by decide) ?_
  refine zv_iast dX8_wordsOf_64 (zta_8_4 hT hp0) (ztl_8_4 hT hp0) (by decide) (fun M8 => ?_)
  refine zv_rload_n dX8_wordsOf_65 0 rfl ?_
  refine zg_RX8_29 dX8_wordsOf_66 hp0 ?_
  refine zv_bipush (z := 6) dX8_wordsOf_69 (by decide) ?_
  refine zv_rload_n dX8_wordsOf_71 0 rfl ?_
  refine zg_RX8_22 dX8_wordsOf_72 hp0 ?_
  refine zg_RX8_57 dX8_wordsOf_75 (zta_8_2 hT hp0) ?_
  refine zv_iload_n dX8_wordsOf_78 1 rfl ?_
  refine zv_iald dX8_wordsOf_79 (zta_2_6 hT (zta_8_2 hT hp0)) (ztl_2_6 hT (zta_8_2 hT hp0)) (by decide) ?_
  refine zv_iast dX8_wordsOf_80 (zta_8_4 hT hp0) (ztl_8_4 hT hp0) (by decide) (fun M9 => ?_)
  refine zv_rload_n dX8_wordsOf_81 0 rfl ?_
  refine zg_RX8_29 dX8_wordsOf_82 hp0 ?_
  exact zv_ret (fun h => h) (zv_rret (by first | exact Or.inl ⟨_, rfl⟩ | exact Or.inr ⟨_, rfl⟩) dX8_wordsOf_85)
def fb_X4_workOut_6 (k : zK)  (l0 : Nat) (l1 : Int) (l2 : Nat) (l3 : Nat) (y4 : Int) (y5 : Int) (M0 : zM) : Option ((Int × Int × zM) ⊕ (Int × zM)) :=
  zbr y5 256 (256 ≤ y5) (some (.inr (y4, M0))) (zgd (0 ≤ y5 ∧ y5 < 256) (zb2 (zbr (M0 (zfr k l3 0) y5.toNat) 0 (M0 (zfr k l3 0) y5.toNat = 0) (some (0, M0)) (zbd (f_X8_wordsOf k l3 y5 l1 M0) (fun M2 v1 => zgd (ztag k v1.toNat = 20 ∧ ((zlen k v1.toNat : Nat) : Int) = 8) (zb1 (f_X3_first k l2 2 (v1.toNat) 0 M2) (fun v4 => some (v4, M2)))))) (fun x6 M7 => zgd (0 ≤ (l1 * 256) + y5 ∧ (l1 * 256) + y5 < 25600) (zlt (zst M7 (zfr k l0 1) ((l1 * 256) + y5).toNat (zo_i2b (zo_i2b x6))) (fun M8 => zlt (y4 + x6) (fun x9 => zlt (y5 + 1) (fun x10 => some (.inl (x9, x10, M8)))))))))
def f_X4_workOut (k : zK)  (p0 : Nat) (p1 : Int) (p2 : Nat) (p3 : Nat) (M0 : zM) : Option zM :=
  zb2 (zw3 (fb_X4_workOut_6 k p0 p1 p2 p3) zfu 0 0 M0) (fun x11 M12 => zgd (0 ≤ p1 ∧ p1 < 100) (zlt (zst M12 (zfr k p0 0) p1.toNat (x11)) (fun M13 => some M13)))
theorem vl_X4_workOut_6 {κ : zC} {w : zW} (hw : zWk w)  (l0 : Nat) (l1 : Int) (l2 : Nat) (l3 : Nat) (g0 : ztag w.1 l0 = 5) (g2 : ztag w.1 l2 = 4) (g3 : ztag w.1 l3 = 9)  (E : (Int × zM) → Prop) (hX : ∀ (u4 : Int) (M1 : zM), E (u4, M1) → zB cX4_workOut RX4 7 none κ w (0, 0, 3) 72 [(0, rn w l0), (1, iv l1), (4, iv u4)] [] M1)  (y4 : Int) (y5 : Int) (M0 : zM) :
    zV cX4_workOut RX4 7 none κ w (0, 0, 3) 6 [(4, iv y4), (5, iv y5), (0, rn w l0), (1, iv l1), (2, rn w l2), (3, rn w l3)] [] M0 (zw3 (fb_X4_workOut_6 w.1 l0 l1 l2 l3) zfu y4 y5 M0) E := by
  have hT := hw.1
  refine zv_loop3 (fun y4 y5 M0 => [(4, iv y4), (5, iv y5), (0, rn w l0), (1, iv l1), (2, rn w l2), (3, rn w l3)]) (fun y4 y5 M0 => M0) (fun y4 y5 M0 => ?_) y4 y5 M0
  unfold fb_X4_workOut_6
  refine zv_iload dX4_workOut_6 1 rfl ?_
  refine zv_sipush (z := 256) dX4_workOut_8 (by decide) ?_
  refine zv_icmp_ge (tgt := 72) dX4_workOut_11 (by decide) ?_ ?_
  · exact zv_sub (L' := [(0, rn w l0), (1, iv l1), (4, iv y4)]) [2, 3, 0] rfl (zv_exit (fun h => hX _ _ h))
  refine zv_rload_n dX4_workOut_14 5 rfl ?_
  refine zg_RX4_28 dX4_workOut_15 g3 ?_
  refine zv_iload dX4_workOut_18 1 rfl ?_
  refine zv_zald dX4_workOut_20 (zta_8_0 hT g3) (ztl_8_0 hT g3) (by decide) ?_
  refine zv_join2 41 (fun x6 M7 => [(4, iv y4), (5, iv y5), (0, rn w l0), (1, iv l1), (2, rn w l2), (3, rn w l3)]) (fun x6 M7 => [iv x6]) (fun x6 M7 => M7) ?_ (fun x6 M7 => ?_)
  · refine zv_if_eq (tgt := 40) dX4_workOut_21 (by decide) ?_ ?_
    · refine zv_iconst (z := 0) dX4_workOut_40 ?_
      exact zv_sub (L' := [(4, iv y4), (5, iv y5), (0, rn w l0), (1, iv l1), (2, rn w l2), (3, rn w l3)]) [0, 1, 2, 3, 4, 5] rfl (zv_exit (fun h => h))
    refine zv_rload_n dX4_workOut_24 4 rfl ?_
    refine zv_iconst (z := 2) dX4_workOut_25 ?_
    refine zv_rload_n dX4_workOut_26 5 rfl ?_
    refine zv_iload dX4_workOut_27 1 rfl ?_
    refine zv_iload_n dX4_workOut_29 3 rfl ?_
    refine (zv_callVr [iv y5, iv l1] (c_X8_wordsOf κ.2.1 hw l3 y5 l1 M0 g3) zmd_X8_wordsOf zwI_X8_wordsOf zwS_X8_wordsOf zwM_RX4_34 zcd_8 g3 rfl (by decide) rfl (Nat.le_of_ble_eq_true rfl) dX4_workOut_30 (fun M2 v1 _ => ?_))
    refine zv_gd (fun h3 => ?_)
    refine zv_iconst (z := 0) dX4_workOut_33 ?_
    refine zv_pc (zv_callVi [iv 2, rn w (v1.toNat), iv 0] (c_X3_first κ.2.1 hw l2 2 (v1.toNat) 0 M2 g2 h3.1 h3.2) zmd_X3_first zwI_X3_first zwS_X3_first zwM_RX4_38 zcd_3 g2 rfl (by decide) rfl (Nat.le_of_ble_eq_true rfl) dX4_workOut_34 (fun mh5 v4 h5 => ?_))
    obtain rfl := zpuE h5
    refine zv_goto (tgt := 41) dX4_workOut_37 (by decide) ?_
    exact zv_sub (L' := [(4, iv y4), (5, iv y5), (0, rn w l0), (1, iv l1), (2, rn w l2), (3, rn w l3)]) [0, 1, 2, 3, 4, 5] rfl (zv_exit (fun h => h))
  refine zv_istore_p (L' := [(6, iv x6), (4, iv y4), (5, iv y5), (0, rn w l0), (1, iv l1), (2, rn w l2), (3, rn w l3)]) dX4_workOut_41 (by decide) rfl ?_
  refine zv_rload_n dX4_workOut_43 3 rfl ?_
  refine zg_RX4_15 dX4_workOut_44 g0 ?_
  refine zv_iload_n dX4_workOut_47 4 rfl ?_
  refine zv_sipush (z := 256) dX4_workOut_48 (by decide) ?_
  refine zv_imul dX4_workOut_51 ?_
  refine zv_iload dX4_workOut_52 2 rfl ?_
  refine zv_iadd dX4_workOut_54 ?_
  refine zv_iload dX4_workOut_55 0 rfl ?_
  refine zv_i2b dX4_workOut_57 ?_
  refine zv_bast dX4_workOut_58 (zta_4_1 hT g0) (ztl_4_1 hT g0) (by decide) (fun M8 => ?_)
  refine zv_iload dX4_workOut_59 1 rfl ?_
  refine zv_iload dX4_workOut_61 0 rfl ?_
  refine zv_iadd dX4_workOut_63 ?_
  refine zv_istore dX4_workOut_64 (fun x9 => [(4, iv x9), (6, iv x6), (5, iv y5), (0, rn w l0), (1, iv l1), (2, rn w l2), (3, rn w l3)]) (by decide) (fun _ => rfl) (fun x9 => ?_)
  refine zv_iinc dX4_workOut_66 2 rfl (fun x10 => [(5, iv x10), (4, iv x9), (6, iv x6), (0, rn w l0), (1, iv l1), (2, rn w l2), (3, rn w l3)]) (by decide) (fun _ => rfl) (fun x10 => ?_)
  refine zv_goto (tgt := 6) dX4_workOut_69 (by decide) ?_
  exact zv_sub (L' := [(4, iv x9), (5, iv x10), (0, rn w l0), (1, iv l1), (2, rn w l2), (3, rn w l3)]) [1, 0, 3, 4, 5, 6] rfl (zv_exit (fun h => h))
theorem c_X4_workOut (l : Launch) {w : zW} (hw : zWk w)  (p0 : Nat) (p1 : Int) (p2 : Nat) (p3 : Nat) (M0 : zM) (hp0 : ztag w.1 p0 = 5) (hp2 : ztag w.1 p2 = 4) (hp3 : ztag w.1 p3 = 9) : zCn l yX4_workOut cX4_workOut 7 none (3) 0 w [rn w p0, iv p1, rn w p2, rn w p3] M0 ((f_X4_workOut w.1 p0 p1 p2 p3 M0).map fun m => (m, (0 : Int))) := by
  have hT := hw.1
  refine zCn_ofV (own := RX4) (by decide) rfl hw (Nat.le_of_ble_eq_true rfl) [(0, rn w p0), (1, iv p1), (2, rn w p2), (3, rn w p3)] rfl ?_
  intro κ hl
  subst hl
  unfold f_X4_workOut
  refine zv_iconst (z := 0) dX4_workOut_0 ?_
  refine zv_istore_p (L' := [(4, iv 0), (0, rn w p0), (1, iv p1), (2, rn w p2), (3, rn w p3)]) dX4_workOut_1 (by decide) rfl ?_
  refine zv_iconst (z := 0) dX4_workOut_3 ?_
  refine zv_istore_p (L' := [(5, iv 0), (4, iv 0), (0, rn w p0), (1, iv p1), (2, rn w p2), (3, rn w p3)]) dX4_workOut_4 (by decide) rfl ?_
  refine zv_join2 72 (fun x11 M12 => [(0, rn w p0), (1, iv p1), (4, iv x11)]) (fun x11 M12 => []) (fun x11 M12 => M12) (zv_sub (L' := [(4, iv 0), (5, iv 0), (0, rn w p0), (1, iv p1), (2, rn w p2), (3, rn w p3)]) [1, 0, 2, 3, 4, 5] rfl (vl_X4_workOut_6 hw p0 p1 p2 p3 hp0 hp2 hp3 _ (fun _ _ h => h) 0 0 M0)) (fun x11 M12 => ?_)
  refine zv_rload_n dX4_workOut_72 0 rfl ?_
  refine zg_RX4_9 dX4_workOut_73 hp0 ?_
  refine zv_iload_n dX4_workOut_76 1 rfl ?_
  refine zv_iload dX4_workOut_77 2 rfl ?_
  refine zv_iast dX4_workOut_79 (zta_4_0 hT hp0) (ztl_4_0 hT hp0) (by decide) (fun M13 => ?_)
  exact zv_ret (fun h => h) (zv_vret (v := 0) dX4_workOut_80)
def fb_X8_stepInland_27 (k : zK)  (l0 : Nat) (l3 : Int) (l4 : Int) (y2 : Int) (y5 : Int) (M0 : zM) : Option ((Int × Int × zM) ⊕ (Int × zM)) :=
  zbr y5 4 (4 ≤ y5) (some (.inr (y2, M0))) (zb1 (f_X10_beside k l4 y5 M0) (fun v2 => zbr v2 (-1) (v2 = (-1)) (zlt (y5 + 1) (fun x4 => some (.inl (y2, x4, M0)))) (zgd (0 ≤ v2 ∧ v2 < 256) (zbr (M0 (zfr k l0 1) v2.toNat) 99 (¬ M0 (zfr k l0 1) v2.toNat = 99) (zlt (y5 + 1) (fun x5 => some (.inl (y2, x5, M0)))) (zbr y2 256 (256 ≤ y2) (zlt (y5 + 1) (fun x6 => some (.inl (y2, x6, M0)))) (zgd (0 ≤ l4 ∧ l4 < 256) (zgd (0 ≤ v2 ∧ v2 < 256) (zlt (zst M0 (zfr k l0 1) v2.toNat ((M0 (zfr k l0 1) l4.toNat) + 1)) (fun M7 => zgd (0 ≤ y2 ∧ y2 < 256) (zlt (zst M7 (zfr k l0 3) y2.toNat (v2)) (fun M8 => zlt (y2 + 1) (fun x9 => zlt (y5 + 1) (fun x10 => some (.inl (x9, x10, M8)))))))))))))))
def fb_X8_stepInland_4 (k : zK)  (l0 : Nat) (y2 : Int) (y3 : Int) (M0 : zM) : Option ((Int × Int × zM) ⊕ (zM)) :=
  zbr y3 y2 (y2 ≤ y3) (some (.inr M0)) (zbr y3 256 (256 ≤ y3) (some (.inr M0)) (zgd (0 ≤ y3 ∧ y3 < 256) (zlt (M0 (zfr k l0 3) y3.toNat) (fun x1 => zb2 (zw3 (fb_X8_stepInland_27 k l0 y3 x1) zfu y2 0 M0) (fun x11 M12 => zlt (y3 + 1) (fun x13 => some (.inl (x11, x13, M12))))))))
def f_X8_stepInland (k : zK)  (p0 : Nat) (p1 : Int) (M0 : zM) : Option zM :=
  zb1 (zw3 (fb_X8_stepInland_4 k p0) zfu p1 0 M0) (fun M14 => some M14)
theorem vl_X8_stepInland_27 {κ : zC} {w : zW} (hw : zWk w)  (l0 : Nat) (l3 : Int) (l4 : Int) (g0 : ztag w.1 l0 = 9)  (E : (Int × zM) → Prop) (hX : ∀ (u2 : Int) (M1 : zM), E (u2, M1) → zB cX8_stepInland RX8 7 none κ w (0, 0, 1) 100 [(0, rn w l0), (2, iv u2), (3, iv l3)] [] M1)  (y2 : Int) (y5 : Int) (M0 : zM) :
    zV cX8_stepInland RX8 7 none κ w (0, 0, 1) 27 [(2, iv y2), (5, iv y5), (0, rn w l0), (3, iv l3), (4, iv l4)] [] M0 (zw3 (fb_X8_stepInland_27 w.1 l0 l3 l4) zfu y2 y5 M0) E := by
  have hT := hw.1
  refine zv_loop3 (fun y2 y5 M0 => [(2, iv y2), (5, iv y5), (0, rn w l0), (3, iv l3), (4, iv l4)]) (fun y2 y5 M0 => M0) (fun y2 y5 M0 => ?_) y2 y5 M0
  unfold fb_X8_stepInland_27
  refine zv_iload dX8_stepInland_27 1 rfl ?_
  refine zv_iconst (z := 4) dX8_stepInland_29 ?_
  refine zv_icmp_ge (tgt := 100) dX8_stepInland_30 (by decide) ?_ ?_
  · exact zv_sub (L' := [(0, rn w l0), (2, iv y2), (3, iv l3)]) [2, 0, 3] rfl (zv_exit (fun h => hX _ _ h))
  refine zv_iload dX8_stepInland_33 4 rfl ?_
  refine zv_iload dX8_stepInland_35 1 rfl ?_
  refine zv_pc (zv_callNi [iv l4, iv y5] (c_X10_beside κ.2.1 hw l4 y5 M0 ) zmd_X10_beside zwT_X10_beside zwQ_RX8_46 rfl (by decide) rfl (Nat.le_of_ble_eq_true rfl) dX8_stepInland_37 (fun mh3 v2 h3 => ?_))
  obtain rfl := zpuE h3
  refine zv_istore_p (L' := [(6, iv v2), (2, iv y2), (5, iv y5), (0, rn w l0), (3, iv l3), (4, iv l4)]) dX8_stepInland_40 (by decide) rfl ?_
  refine zv_iload dX8_stepInland_42 0 rfl ?_
  refine zv_iconst (z := (-1)) dX8_stepInland_44 ?_
  refine zv_icmp_eq (tgt := 94) dX8_stepInland_45 (by decide) ?_ ?_
  · refine zv_iinc dX8_stepInland_94 2 rfl (fun x4 => [(5, iv x4), (6, iv v2), (2, iv y2), (0, rn w l0), (3, iv l3), (4, iv l4)]) (by decide) (fun _ => rfl) (fun x4 => ?_)
    refine zv_goto (tgt := 27) dX8_stepInland_97 (by decide) ?_
    exact zv_sub (L' := [(2, iv y2), (5, iv x4), (0, rn w l0), (3, iv l3), (4, iv l4)]) [2, 0, 3, 4, 5] rfl (zv_exit (fun h => h))
  refine zv_rload_n dX8_stepInland_48 3 rfl ?_
  refine zg_RX8_15 dX8_stepInland_49 g0 ?_
  refine zv_iload dX8_stepInland_52 0 rfl ?_
  refine zv_iald dX8_stepInland_54 (zta_8_1 hT g0) (ztl_8_1 hT g0) (by decide) ?_
  refine zv_bipush (z := 99) dX8_stepInland_55 (by decide) ?_
  refine zv_icmp_ne (tgt := 94) dX8_stepInland_57 (by decide) ?_ ?_
  · refine zv_iinc dX8_stepInland_94 2 rfl (fun x5 => [(5, iv x5), (6, iv v2), (2, iv y2), (0, rn w l0), (3, iv l3), (4, iv l4)]) (by decide) (fun _ => rfl) (fun x5 => ?_)
    refine zv_goto (tgt := 27) dX8_stepInland_97 (by decide) ?_
    exact zv_sub (L' := [(2, iv y2), (5, iv x5), (0, rn w l0), (3, iv l3), (4, iv l4)]) [2, 0, 3, 4, 5] rfl (zv_exit (fun h => h))
  refine zv_iload_n dX8_stepInland_60 1 rfl ?_
  refine zv_sipush (z := 256) dX8_stepInland_61 (by decide) ?_
  refine zv_icmp_ge (tgt := 94) dX8_stepInland_64 (by decide) ?_ ?_
  · refine zv_iinc dX8_stepInland_94 2 rfl (fun x6 => [(5, iv x6), (6, iv v2), (2, iv y2), (0, rn w l0), (3, iv l3), (4, iv l4)]) (by decide) (fun _ => rfl) (fun x6 => ?_)
    refine zv_goto (tgt := 27) dX8_stepInland_97 (by decide) ?_
    exact zv_sub (L' := [(2, iv y2), (5, iv x6), (0, rn w l0), (3, iv l3), (4, iv l4)]) [2, 0, 3, 4, 5] rfl (zv_exit (fun h => h))
  refine zv_rload_n dX8_stepInland_67 3 rfl ?_
  refine zg_RX8_15 dX8_stepInland_68 g0 ?_
  refine zv_iload dX8_stepInland_71 0 rfl ?_
  refine zv_rload_n dX8_stepInland_73 3 rfl ?_
  refine zg_RX8_15 dX8_stepInland_74 g0 ?_
  refine zv_iload dX8_stepInland_77 5 rfl ?_
  refine zv_iald dX8_stepInland_79 (zta_8_1 hT g0) (ztl_8_1 hT g0) (by decide) ?_
  refine zv_iconst (z := 1) dX8_stepInland_80 ?_
  refine zv_iadd dX8_stepInland_81 ?_
  refine zv_iast dX8_stepInland_82 (zta_8_1 hT g0) (ztl_8_1 hT g0) (by decide) (fun M7 => ?_)
  refine zv_rload_n dX8_stepInland_83 3 rfl ?_
  refine zg_RX8_26 dX8_stepInland_84 g0 ?_
  refine zv_iload_n dX8_stepInland_87 1 rfl ?_
  refine zv_iload dX8_stepInland_88 0 rfl ?_
  refine zv_iast dX8_stepInland_90 (zta_8_3 hT g0) (ztl_8_3 hT g0) (by decide) (fun M8 => ?_)
  refine zv_iinc dX8_stepInland_91 1 rfl (fun x9 => [(2, iv x9), (6, iv v2), (5, iv y5), (0, rn w l0), (3, iv l3), (4, iv l4)]) (by decide) (fun _ => rfl) (fun x9 => ?_)
  refine zv_iinc dX8_stepInland_94 2 rfl (fun x10 => [(5, iv x10), (2, iv x9), (6, iv v2), (0, rn w l0), (3, iv l3), (4, iv l4)]) (by decide) (fun _ => rfl) (fun x10 => ?_)
  refine zv_goto (tgt := 27) dX8_stepInland_97 (by decide) ?_
  exact zv_sub (L' := [(2, iv x9), (5, iv x10), (0, rn w l0), (3, iv l3), (4, iv l4)]) [1, 0, 3, 4, 5] rfl (zv_exit (fun h => h))
theorem vl_X8_stepInland_4 {κ : zC} {w : zW} (hw : zWk w)  (l0 : Nat) (g0 : ztag w.1 l0 = 9)  (E : (zM) → Prop) (hX : ∀  (M1 : zM), E M1 → zB cX8_stepInland RX8 7 none κ w (0, 0, 1) 106 [] [] M1)  (y2 : Int) (y3 : Int) (M0 : zM) :
    zV cX8_stepInland RX8 7 none κ w (0, 0, 1) 4 [(2, iv y2), (3, iv y3), (0, rn w l0)] [] M0 (zw3 (fb_X8_stepInland_4 w.1 l0) zfu y2 y3 M0) E := by
  have hT := hw.1
  refine zv_loop3 (fun y2 y3 M0 => [(2, iv y2), (3, iv y3), (0, rn w l0)]) (fun y2 y3 M0 => M0) (fun y2 y3 M0 => ?_) y2 y3 M0
  unfold fb_X8_stepInland_4
  refine zv_iload_n dX8_stepInland_4 1 rfl ?_
  refine zv_iload_n dX8_stepInland_5 0 rfl ?_
  refine zv_icmp_ge (tgt := 106) dX8_stepInland_6 (by decide) ?_ ?_
  · exact zv_sub (L' := []) [] rfl (zv_exit (fun h => hX _ h))
  refine zv_iload_n dX8_stepInland_9 1 rfl ?_
  refine zv_sipush (z := 256) dX8_stepInland_10 (by decide) ?_
  refine zv_icmp_ge (tgt := 106) dX8_stepInland_13 (by decide) ?_ ?_
  · exact zv_sub (L' := []) [] rfl (zv_exit (fun h => hX _ h))
  refine zv_rload_n dX8_stepInland_16 2 rfl ?_
  refine zg_RX8_26 dX8_stepInland_17 g0 ?_
  refine zv_iload_n dX8_stepInland_20 1 rfl ?_
  refine zv_iald dX8_stepInland_21 (zta_8_3 hT g0) (ztl_8_3 hT g0) (by decide) ?_
  refine zv_istore dX8_stepInland_22 (fun x1 => [(4, iv x1), (2, iv y2), (3, iv y3), (0, rn w l0)]) (by decide) (fun _ => rfl) (fun x1 => ?_)
  refine zv_iconst (z := 0) dX8_stepInland_24 ?_
  refine zv_istore_p (L' := [(5, iv 0), (4, iv x1), (2, iv y2), (3, iv y3), (0, rn w l0)]) dX8_stepInland_25 (by decide) rfl ?_
  refine zv_join2 100 (fun x11 M12 => [(0, rn w l0), (2, iv x11), (3, iv y3)]) (fun x11 M12 => []) (fun x11 M12 => M12) (zv_sub (L' := [(2, iv y2), (5, iv 0), (0, rn w l0), (3, iv y3), (4, iv x1)]) [2, 0, 4, 3, 1] rfl (vl_X8_stepInland_27 hw l0 y3 x1 g0 _ (fun _ _ h => h) y2 0 M0)) (fun x11 M12 => ?_)
  refine zv_iinc dX8_stepInland_100 2 rfl (fun x13 => [(3, iv x13), (0, rn w l0), (2, iv x11)]) (by decide) (fun _ => rfl) (fun x13 => ?_)
  refine zv_goto (tgt := 4) dX8_stepInland_103 (by decide) ?_
  exact zv_sub (L' := [(2, iv x11), (3, iv x13), (0, rn w l0)]) [2, 0, 1] rfl (zv_exit (fun h => h))
theorem c_X8_stepInland (l : Launch) {w : zW} (hw : zWk w)  (p0 : Nat) (p1 : Int) (M0 : zM) (hp0 : ztag w.1 p0 = 9) : zCn l yX8_stepInland cX8_stepInland 7 none (1) 0 w [rn w p0, iv p1] M0 ((f_X8_stepInland w.1 p0 p1 M0).map fun m => (m, (0 : Int))) := by
  have hT := hw.1
  refine zCn_ofV (own := RX8) (by decide) rfl hw (Nat.le_of_ble_eq_true rfl) [(0, rn w p0), (1, iv p1)] rfl ?_
  intro κ hl
  subst hl
  unfold f_X8_stepInland
  refine zv_iload_n dX8_stepInland_0 1 rfl ?_
  refine zv_istore_np (L' := [(2, iv p1), (0, rn w p0), (1, iv p1)]) (by rfl) dX8_stepInland_1 (by decide) rfl ?_
  refine zv_iconst (z := 0) dX8_stepInland_2 ?_
  refine zv_istore_np (L' := [(3, iv 0), (2, iv p1), (0, rn w p0), (1, iv p1)]) (by rfl) dX8_stepInland_3 (by decide) rfl ?_
  refine zv_join1 106 (fun M14 => []) (fun M14 => []) (fun M14 => M14) (zv_sub (L' := [(2, iv p1), (3, iv 0), (0, rn w p0)]) [1, 0, 2] rfl (vl_X8_stepInland_4 hw p0 hp0 _ (fun _ h => h) p1 0 M0)) (fun M14 => ?_)
  exact zv_ret (fun h => h) (zv_vret (v := 0) dX8_stepInland_106)
def fb_X8_turnTo_18 (k : zK)  (l0 : Nat) (y2 : Int) (y3 : Int) (M0 : zM) : Option ((Int × Int × zM) ⊕ (Int × zM)) :=
  zbr y3 256 (256 ≤ y3) (some (.inr (y2, M0))) (zgd (0 ≤ y3 ∧ y3 < 256) (zb1 (zbr (M0 (zfr k (zfr k l0 2) 3) y3.toNat) (M0 l0 6) (M0 (zfr k (zfr k l0 2) 3) y3.toNat ≤ M0 l0 6) (some (0)) (some (1))) (fun x2 => zgd ((x2 = 0 ∨ x2 = 1) ∧ 0 ≤ y3 ∧ y3 < 256) (zlt (zst M0 (zfr k l0 0) y3.toNat (x2)) (fun M3 => zgd (0 ≤ y3 ∧ y3 < 256) (zlt (zst M3 (zfr k l0 1) y3.toNat (99)) (fun M4 => zgd (0 ≤ y3 ∧ y3 < 256) (zbr (M4 (zfr k l0 0) y3.toNat) 0 (¬ M4 (zfr k l0 0) y3.toNat = 0) (zlt (y3 + 1) (fun x5 => some (.inl (y2, x5, M4)))) (zgd (0 ≤ y3 ∧ y3 < 256) (zlt (zst M4 (zfr k l0 1) y3.toNat (0)) (fun M6 => zgd (0 ≤ y2 ∧ y2 < 256) (zlt (zst M6 (zfr k l0 3) y2.toNat (y3)) (fun M7 => zlt (y2 + 1) (fun x8 => zlt (y3 + 1) (fun x9 => some (.inl (x8, x9, M7)))))))))))))))))
def f_X8_turnTo (k : zK)  (p0 : Nat) (p1 : Int) (M0 : zM) : Option zM :=
  zbr p1 (M0 p0 6) (¬ p1 = M0 p0 6) (zlt (zst M0 p0 6 p1) (fun M1 => zb2 (zw3 (fb_X8_turnTo_18 k p0) zfu 0 0 M1) (fun x10 M11 => zb1 (f_X8_stepInland k p0 x10 M11) (fun M12 => some M12)))) (some M0)
theorem vl_X8_turnTo_18 {κ : zC} {w : zW} (hw : zWk w)  (l0 : Nat) (g0 : ztag w.1 l0 = 9)  (E : (Int × zM) → Prop) (hX : ∀ (u2 : Int) (M1 : zM), E (u2, M1) → zB cX8_turnTo RX8 4 none κ w (0, 0, 2) 92 [(0, rn w l0), (2, iv u2)] [] M1)  (y2 : Int) (y3 : Int) (M0 : zM) :
    zV cX8_turnTo RX8 4 none κ w (0, 0, 2) 18 [(2, iv y2), (3, iv y3), (0, rn w l0)] [] M0 (zw3 (fb_X8_turnTo_18 w.1 l0) zfu y2 y3 M0) E := by
  have hT := hw.1
  refine zv_loop3 (fun y2 y3 M0 => [(2, iv y2), (3, iv y3), (0, rn w l0)]) (fun y2 y3 M0 => M0) (fun y2 y3 M0 => ?_) y2 y3 M0
  unfold fb_X8_turnTo_18
  refine zv_iload_n dX8_turnTo_18 1 rfl ?_
  refine zv_sipush (z := 256) dX8_turnTo_19 (by decide) ?_
  refine zv_icmp_ge (tgt := 92) dX8_turnTo_22 (by decide) ?_ ?_
  · exact zv_sub (L' := [(0, rn w l0), (2, iv y2)]) [2, 0] rfl (zv_exit (fun h => hX _ _ h))
  refine zv_rload_n dX8_turnTo_25 2 rfl ?_
  refine zg_RX8_9 dX8_turnTo_26 g0 ?_
  refine zv_iload_n dX8_turnTo_29 1 rfl ?_
  refine zv_rload_n dX8_turnTo_30 2 rfl ?_
  refine zg_RX8_22 dX8_turnTo_31 g0 ?_
  refine zg_RX8_39 dX8_turnTo_34 (zta_8_2 hT g0) ?_
  refine zv_iload_n dX8_turnTo_37 1 rfl ?_
  refine zv_iald dX8_turnTo_38 (zta_2_3 hT (zta_8_2 hT g0)) (ztl_2_3 hT (zta_8_2 hT g0)) (by decide) ?_
  refine zv_rload_n dX8_turnTo_39 2 rfl ?_
  refine zg_RX8_35 dX8_turnTo_40 g0 ?_
  refine zv_join1 51 (fun x2 => [(2, iv y2), (3, iv y3), (0, rn w l0)]) (fun x2 => [iv x2, iv y3, rn w (zfr w.1 l0 0)]) (fun x2 => M0) ?_ (fun x2 => ?_)
  · refine zv_icmp_le (tgt := 50) dX8_turnTo_43 (by decide) ?_ ?_
    · refine zv_iconst (z := 0) dX8_turnTo_50 ?_
      exact zv_sub (L' := [(2, iv y2), (3, iv y3), (0, rn w l0)]) [0, 1, 2] rfl (zv_exit (fun h => h))
    refine zv_iconst (z := 1) dX8_turnTo_46 ?_
    refine zv_goto (tgt := 51) dX8_turnTo_47 (by decide) ?_
    exact zv_sub (L' := [(2, iv y2), (3, iv y3), (0, rn w l0)]) [0, 1, 2] rfl (zv_exit (fun h => h))
  refine zv_zast dX8_turnTo_51 (zta_8_0 hT g0) (ztl_8_0 hT g0) (by decide) (fun M3 => ?_)
  refine zv_rload_n dX8_turnTo_52 2 rfl ?_
  refine zg_RX8_15 dX8_turnTo_53 g0 ?_
  refine zv_iload_n dX8_turnTo_56 1 rfl ?_
  refine zv_bipush (z := 99) dX8_turnTo_57 (by decide) ?_
  refine zv_iast dX8_turnTo_59 (zta_8_1 hT g0) (ztl_8_1 hT g0) (by decide) (fun M4 => ?_)
  refine zv_rload_n dX8_turnTo_60 2 rfl ?_
  refine zg_RX8_9 dX8_turnTo_61 g0 ?_
  refine zv_iload_n dX8_turnTo_64 1 rfl ?_
  refine zv_zald dX8_turnTo_65 (zta_8_0 hT g0) (ztl_8_0 hT g0) (by decide) ?_
  refine zv_if_ne (tgt := 86) dX8_turnTo_66 (by decide) ?_ ?_
  · refine zv_iinc dX8_turnTo_86 1 rfl (fun x5 => [(3, iv x5), (2, iv y2), (0, rn w l0)]) (by decide) (fun _ => rfl) (fun x5 => ?_)
    refine zv_goto (tgt := 18) dX8_turnTo_89 (by decide) ?_
    exact zv_sub (L' := [(2, iv y2), (3, iv x5), (0, rn w l0)]) [1, 0, 2] rfl (zv_exit (fun h => h))
  refine zv_rload_n dX8_turnTo_69 2 rfl ?_
  refine zg_RX8_15 dX8_turnTo_70 g0 ?_
  refine zv_iload_n dX8_turnTo_73 1 rfl ?_
  refine zv_iconst (z := 0) dX8_turnTo_74 ?_
  refine zv_iast dX8_turnTo_75 (zta_8_1 hT g0) (ztl_8_1 hT g0) (by decide) (fun M6 => ?_)
  refine zv_rload_n dX8_turnTo_76 2 rfl ?_
  refine zg_RX8_26 dX8_turnTo_77 g0 ?_
  refine zv_iload_n dX8_turnTo_80 0 rfl ?_
  refine zv_iload_n dX8_turnTo_81 1 rfl ?_
  refine zv_iast dX8_turnTo_82 (zta_8_3 hT g0) (ztl_8_3 hT g0) (by decide) (fun M7 => ?_)
  refine zv_iinc dX8_turnTo_83 0 rfl (fun x8 => [(2, iv x8), (3, iv y3), (0, rn w l0)]) (by decide) (fun _ => rfl) (fun x8 => ?_)
  refine zv_iinc dX8_turnTo_86 1 rfl (fun x9 => [(3, iv x9), (2, iv x8), (0, rn w l0)]) (by decide) (fun _ => rfl) (fun x9 => ?_)
  refine zv_goto (tgt := 18) dX8_turnTo_89 (by decide) ?_
  exact zv_sub (L' := [(2, iv x8), (3, iv x9), (0, rn w l0)]) [1, 0, 2] rfl (zv_exit (fun h => h))
theorem c_X8_turnTo (l : Launch) {w : zW} (hw : zWk w)  (p0 : Nat) (p1 : Int) (M0 : zM) (hp0 : ztag w.1 p0 = 9) : zCn l yX8_turnTo cX8_turnTo 4 none (2) 0 w [rn w p0, iv p1] M0 ((f_X8_turnTo w.1 p0 p1 M0).map fun m => (m, (0 : Int))) := by
  have hT := hw.1
  refine zCn_ofV (own := RX8) (by decide) rfl hw (Nat.le_of_ble_eq_true rfl) [(0, rn w p0), (1, iv p1)] rfl ?_
  intro κ hl
  subst hl
  unfold f_X8_turnTo
  refine zv_iload_n dX8_turnTo_0 1 rfl ?_
  refine zv_rload_n dX8_turnTo_1 0 rfl ?_
  refine zg_RX8_35 dX8_turnTo_2 hp0 ?_
  refine zv_icmp_ne (tgt := 9) dX8_turnTo_5 (by decide) ?_ ?_
  · refine zv_rload_n dX8_turnTo_9 0 rfl ?_
    refine zv_iload_n dX8_turnTo_10 1 rfl ?_
    refine zp_RX8_35 dX8_turnTo_11 hp0 (fun M1 => ?_)
    refine zv_iconst (z := 0) dX8_turnTo_14 ?_
    refine zv_istore_np (L' := [(2, iv 0), (0, rn w p0), (1, iv p1)]) (by rfl) dX8_turnTo_15 (by decide) rfl ?_
    refine zv_iconst (z := 0) dX8_turnTo_16 ?_
    refine zv_istore_np (L' := [(3, iv 0), (2, iv 0), (0, rn w p0), (1, iv p1)]) (by rfl) dX8_turnTo_17 (by decide) rfl ?_
    refine zv_join2 92 (fun x10 M11 => [(0, rn w p0), (2, iv x10)]) (fun x10 M11 => []) (fun x10 M11 => M11) (zv_sub (L' := [(2, iv 0), (3, iv 0), (0, rn w p0)]) [1, 0, 2] rfl (vl_X8_turnTo_18 hw p0 hp0 _ (fun _ _ h => h) 0 0 M1)) (fun x10 M11 => ?_)
    refine zv_rload_n dX8_turnTo_92 0 rfl ?_
    refine zv_iload_n dX8_turnTo_93 1 rfl ?_
    refine zv_vc (zv_callVv [iv x10] (c_X8_stepInland κ.2.1 hw p0 x10 M11 hp0) zmd_X8_stepInland zwI_X8_stepInland zwS_X8_stepInland zwM_RX8_42 zcd_8 hp0 rfl (by decide) rfl (Nat.le_of_ble_eq_true rfl) dX8_turnTo_94 (fun M12 _ _ => ?_))
    exact zv_ret (fun h => h) (zv_vret (v := 0) dX8_turnTo_97)
  exact zv_ret (fun h => h) (zv_vret (v := 0) dX8_turnTo_8)
def f_X10_spanKnown (k : zK)  (p0 : Nat) (p1 : Int) (M0 : zM) : Option (zM × Int) :=
  zgd (ztag k (M0 p0 10).toNat = 4 ∧ (M0 p0 10).toNat ≠ 0) (zlt (M0 p0 10).toNat (fun q1 => zgd (0 ≤ p1 ∧ p1 < 100) (zlt (M0 (zfr k q1 12) p1.toNat) (fun x3 => zgd (0 ≤ x3 ∧ x3 < 100) (zbr (M0 (zfr k (zfr k p0 5) 0) x3.toNat) (-1) (¬ M0 (zfr k (zfr k p0 5) 0) x3.toNat = (-1)) (some (M0, x3)) (zgd (ztag k (M0 p0 10).toNat = 4 ∧ (M0 p0 10).toNat ≠ 0) (zlt (M0 p0 10).toNat (fun q4 => zb1 (f_X3_bothLevels k q4 x3 M0) (fun v6 => zb1 (f_X8_turnTo k (zfr k p0 3) v6 M0) (fun M8 => zgd (ztag k (M8 p0 10).toNat = 4 ∧ (M8 p0 10).toNat ≠ 0) (zlt (M8 p0 10).toNat (fun q9 => zb1 (f_X4_workOut k (zfr k p0 5) x3 q9 (zfr k p0 3) M8) (fun M11 => some (M11, x3))))))))))))))
theorem c_X10_spanKnown (l : Launch) {w : zW} (hw : zWk w)  (p0 : Nat) (p1 : Int) (M0 : zM) (hp0 : ztag w.1 p0 = 11) : zCn l yX10_spanKnown cX10_spanKnown 3 (some .int) (4) 1 w [rn w p0, iv p1] M0 (f_X10_spanKnown w.1 p0 p1 M0) := by
  have hT := hw.1
  refine zCn_of (own := RX10) (by decide) rfl hw (Nat.le_of_ble_eq_true rfl) [(0, rn w p0), (1, iv p1)] rfl ?_
  intro κ hl
  subst hl
  unfold f_X10_spanKnown
  refine zv_rload_n dX10_spanKnown_0 0 rfl ?_
  refine zg_RX10_74 dX10_spanKnown_1 hp0 (fun q1 h2 => ?_)
  refine zg_RX10_442 dX10_spanKnown_4 h2 ?_
  refine zv_iload_n dX10_spanKnown_7 1 rfl ?_
  refine zv_iald dX10_spanKnown_8 (zta_3_12 hT h2) (ztl_3_12 hT h2) (by decide) ?_
  refine zv_istore_n (i := 2) (by rfl) dX10_spanKnown_9 (fun x3 => [(2, iv x3), (0, rn w p0), (1, iv p1)]) (by decide) (fun _ => rfl) (fun x3 => ?_)
  refine zv_rload_n dX10_spanKnown_10 1 rfl ?_
  refine zg_RX10_42 dX10_spanKnown_11 hp0 ?_
  refine zg_RX10_330 dX10_spanKnown_14 (zta_10_5 hT hp0) ?_
  refine zv_iload_n dX10_spanKnown_17 0 rfl ?_
  refine zv_iald dX10_spanKnown_18 (zta_4_0 hT (zta_10_5 hT hp0)) (ztl_4_0 hT (zta_10_5 hT hp0)) (by decide) ?_
  refine zv_iconst (z := (-1)) dX10_spanKnown_19 ?_
  refine zv_icmp_ne (tgt := 54) dX10_spanKnown_20 (by decide) ?_ ?_
  · refine zv_iload_n dX10_spanKnown_54 0 rfl ?_
    exact zv_ret (fun h => h) (zv_iret dX10_spanKnown_55)
  refine zv_rload_n dX10_spanKnown_23 1 rfl ?_
  refine zg_RX10_30 dX10_spanKnown_24 hp0 ?_
  refine zv_rload_n dX10_spanKnown_27 1 rfl ?_
  refine zg_RX10_74 dX10_spanKnown_28 hp0 (fun q4 h5 => ?_)
  refine zv_iload_n dX10_spanKnown_31 0 rfl ?_
  refine zv_pc (zv_callVi [iv x3] (c_X3_bothLevels κ.2.1 hw q4 x3 M0 h5) zmd_X3_bothLevels zwI_X3_bothLevels zwS_X3_bothLevels zwM_RX10_253 zcd_3 h5 rfl (by decide) rfl (Nat.le_of_ble_eq_true rfl) dX10_spanKnown_32 (fun mh7 v6 h7 => ?_))
  obtain rfl := zpuE h7
  refine zv_vc (zv_callVv [iv v6] (c_X8_turnTo κ.2.1 hw (zfr w.1 p0 3) v6 M0 (zta_10_3 hT hp0)) zmd_X8_turnTo zwI_X8_turnTo zwS_X8_turnTo zwM_RX10_433 zcd_8 (zta_10_3 hT hp0) rfl (by decide) rfl (Nat.le_of_ble_eq_true rfl) dX10_spanKnown_35 (fun M8 _ _ => ?_))
  refine zv_rload_n dX10_spanKnown_38 1 rfl ?_
  refine zg_RX10_42 dX10_spanKnown_39 hp0 ?_
  refine zv_iload_n dX10_spanKnown_42 0 rfl ?_
  refine zv_rload_n dX10_spanKnown_43 1 rfl ?_
  refine zg_RX10_74 dX10_spanKnown_44 hp0 (fun q9 h10 => ?_)
  refine zv_rload_n dX10_spanKnown_47 1 rfl ?_
  refine zg_RX10_30 dX10_spanKnown_48 hp0 ?_
  refine zv_vc (zv_callVv [iv x3, rn w q9, rn w (zfr w.1 p0 3)] (c_X4_workOut κ.2.1 hw (zfr w.1 p0 5) x3 q9 (zfr w.1 p0 3) M8 (zta_10_5 hT hp0) h10 (zta_10_3 hT hp0)) zmd_X4_workOut zwI_X4_workOut zwS_X4_workOut zwM_RX10_445 zcd_4 (zta_10_5 hT hp0) rfl (by decide) rfl (Nat.le_of_ble_eq_true rfl) dX10_spanKnown_51 (fun M11 _ _ => ?_))
  refine zv_iload_n dX10_spanKnown_54 0 rfl ?_
  exact zv_ret (fun h => h) (zv_iret dX10_spanKnown_55)
def f_X4_of (k : zK)  (p0 : Nat) (p1 : Int) (p2 : Int) (M0 : zM) : Option Int :=
  zgd (0 ≤ (p1 * 256) + p2 ∧ (p1 * 256) + p2 < 25600) (some (M0 (zfr k p0 1) ((p1 * 256) + p2).toNat))
theorem c_X4_of (l : Launch) {w : zW} (hw : zWk w)  (p0 : Nat) (p1 : Int) (p2 : Int) (M0 : zM) (hp0 : ztag w.1 p0 = 5) : zCn l yX4_of cX4_of 3 (some .int) (0) 1 w [rn w p0, iv p1, iv p2] M0 ((f_X4_of w.1 p0 p1 p2 M0).map fun v => (M0, v)) := by
  have hT := hw.1
  refine zCn_ofP (own := RX4) (by decide) rfl hw (Nat.le_of_ble_eq_true rfl) [(0, rn w p0), (1, iv p1), (2, iv p2)] rfl ?_
  intro κ hl
  subst hl
  unfold f_X4_of
  refine zv_rload_n dX4_of_0 0 rfl ?_
  refine zg_RX4_15 dX4_of_1 hp0 ?_
  refine zv_iload_n dX4_of_4 1 rfl ?_
  refine zv_sipush (z := 256) dX4_of_5 (by decide) ?_
  refine zv_imul dX4_of_8 ?_
  refine zv_iload_n dX4_of_9 2 rfl ?_
  refine zv_iadd dX4_of_10 ?_
  refine zv_bald dX4_of_11 (zta_4_1 hT hp0) (ztl_4_1 hT hp0) (by decide) ?_
  exact zv_ret (fun h => h) (zv_iret dX4_of_12)
def fb_X4_ranked_10 (k : zK)  (l0 : Nat) (l1 : Int) (l2 : Int) (y3 : Int) (M0 : zM) : Option ((Int × zM) ⊕ (zM)) :=
  zbr y3 256 (256 ≤ y3) (some (.inr M0)) (zb1 (f_X4_of k l0 l1 y3 M0) (fun v2 => zgd (0 ≤ v2 ∧ v2 < 100) (zgd (0 ≤ v2 ∧ v2 < 100) (zlt (zst M0 (zfr k l0 2) v2.toNat ((M0 (zfr k l0 2) v2.toNat) + 1)) (fun M4 => zlt (y3 + 1) (fun x5 => some (.inl (x5, M4))))))))
def fb_X4_ranked_44 (k : zK)  (l0 : Nat) (l1 : Int) (M0 : zM) (y3 : Int) (y4 : Int) : Option ((Int × Int) ⊕ (Int × Int)) :=
  zbr y3 0 (y3 ≤ 0) (some (.inr (y3, y4))) (zgd (0 ≤ y3 ∧ y3 < 100) (zbr (M0 (zfr k l0 2) y3.toNat) y4 (y4 < M0 (zfr k l0 2) y3.toNat) (some (.inr (y3, y4))) (zgd (0 ≤ y3 ∧ y3 < 100) (zlt (y4 - (M0 (zfr k l0 2) y3.toNat)) (fun x7 => zlt (y3 + (-1)) (fun x8 => some (.inl (x8, x7))))))))
def fb_X4_ranked_79 (k : zK)  (l0 : Nat) (l1 : Int) (l3 : Int) (M0 : zM) (y4 : Int) (y5 : Int) : Option ((Int × Int) ⊕ ((Unit) ⊕ (zM × Int))) :=
  zbr y5 256 (256 ≤ y5) (some (.inr (.inl ()))) (zb1 (f_X4_of k l0 l1 y5 M0) (fun v11 => zbr v11 l3 (¬ v11 = l3) (zlt (y5 + 1) (fun x13 => some (.inl (y4, x13)))) (zbr y4 0 (¬ y4 = 0) (zlt (y4 + (-1)) (fun x14 => zlt (y5 + 1) (fun x15 => some (.inl (x14, x15))))) (some (.inr (.inr (M0, y5)))))))
def f_X4_ranked (k : zK)  (p0 : Nat) (p1 : Int) (p2 : Int) (M0 : zM) : Option (zM × Int) :=
  zb1 (f_J7_fill_53178 k (zfr k p0 2) 0 M0) (fun M1 => zb1 (zw2 (fb_X4_ranked_10 k p0 p1 p2) zfu 0 M1) (fun M6 => zb2 (zw2 (fb_X4_ranked_44 k p0 p1 M6) zfu 99 p2) (fun x9 x10 => zsp0 (zw2 (fb_X4_ranked_79 k p0 p1 x9 M6) zfu x10 0) (fun r => some (r)) (some (M6, (-1))))))
theorem vl_X4_ranked_10 {κ : zC} {w : zW} (hw : zWk w)  (l0 : Nat) (l1 : Int) (l2 : Int) (g0 : ztag w.1 l0 = 5)  (E : (zM) → Prop) (hX : ∀  (M1 : zM), E M1 → zB cX4_ranked RX4 6 (some .int) κ w (0, 0, 1) 38 [(0, rn w l0), (1, iv l1), (2, iv l2)] [] M1)  (y3 : Int) (M0 : zM) :
    zV cX4_ranked RX4 6 (some .int) κ w (0, 0, 1) 10 [(3, iv y3), (0, rn w l0), (1, iv l1), (2, iv l2)] [] M0 (zw2 (fb_X4_ranked_10 w.1 l0 l1 l2) zfu y3 M0) E := by
  have hT := hw.1
  refine zv_loop2 (fun y3 M0 => [(3, iv y3), (0, rn w l0), (1, iv l1), (2, iv l2)]) (fun y3 M0 => M0) (fun y3 M0 => ?_) y3 M0
  unfold fb_X4_ranked_10
  refine zv_iload_n dX4_ranked_10 0 rfl ?_
  refine zv_sipush (z := 256) dX4_ranked_11 (by decide) ?_
  refine zv_icmp_ge (tgt := 38) dX4_ranked_14 (by decide) ?_ ?_
  · exact zv_sub (L' := [(0, rn w l0), (1, iv l1), (2, iv l2)]) [1, 2, 3] rfl (zv_exit (fun h => hX _ h))
  refine zv_rload_n dX4_ranked_17 1 rfl ?_
  refine zg_RX4_19 dX4_ranked_18 g0 ?_
  refine zv_rload_n dX4_ranked_21 1 rfl ?_
  refine zv_iload_n dX4_ranked_22 2 rfl ?_
  refine zv_iload_n dX4_ranked_23 0 rfl ?_
  refine zv_pc (zv_callVi [iv l1, iv y3] (c_X4_of κ.2.1 hw l0 l1 y3 M0 g0) zmd_X4_of zwI_X4_of zwS_X4_of zwM_RX4_44 zcd_4 g0 rfl (by decide) rfl (Nat.le_of_ble_eq_true rfl) dX4_ranked_24 (fun mh3 v2 h3 => ?_))
  obtain rfl := zpuE h3
  refine zv_dup2 dX4_ranked_27 rfl rfl ?_
  refine zv_iald dX4_ranked_28 (zta_4_2 hT g0) (ztl_4_2 hT g0) (by decide) ?_
  refine zv_iconst (z := 1) dX4_ranked_29 ?_
  refine zv_iadd dX4_ranked_30 ?_
  refine zv_iast dX4_ranked_31 (zta_4_2 hT g0) (ztl_4_2 hT g0) (by decide) (fun M4 => ?_)
  refine zv_iinc dX4_ranked_32 0 rfl (fun x5 => [(3, iv x5), (0, rn w l0), (1, iv l1), (2, iv l2)]) (by decide) (fun _ => rfl) (fun x5 => ?_)
  refine zv_goto (tgt := 10) dX4_ranked_35 (by decide) ?_
  exact zv_sub (L' := [(3, iv x5), (0, rn w l0), (1, iv l1), (2, iv l2)]) [0, 1, 2, 3] rfl (zv_exit (fun h => h))
theorem vl_X4_ranked_44 {κ : zC} {w : zW} (hw : zWk w)  (l0 : Nat) (l1 : Int) (g0 : ztag w.1 l0 = 5) (M0 : zM) (E : (Int × Int) → Prop) (hX : ∀ (u3 : Int) (u4 : Int), E (u3, u4) → zB cX4_ranked RX4 6 (some .int) κ w (0, 0, 1) 76 [(0, rn w l0), (1, iv l1), (3, iv u3), (4, iv u4)] [] M0)  (y3 : Int) (y4 : Int) :
    zV cX4_ranked RX4 6 (some .int) κ w (0, 0, 1) 44 [(3, iv y3), (4, iv y4), (0, rn w l0), (1, iv l1)] [] M0 (zw2 (fb_X4_ranked_44 w.1 l0 l1 M0) zfu y3 y4) E := by
  have hT := hw.1
  refine zv_loop2 (fun y3 y4 => [(3, iv y3), (4, iv y4), (0, rn w l0), (1, iv l1)]) (fun y3 y4 => M0) (fun y3 y4 => ?_) y3 y4
  unfold fb_X4_ranked_44
  refine zv_iload_n dX4_ranked_44 0 rfl ?_
  refine zv_if_le (tgt := 76) dX4_ranked_45 (by decide) ?_ ?_
  · exact zv_sub (L' := [(0, rn w l0), (1, iv l1), (3, iv y3), (4, iv y4)]) [2, 3, 0, 1] rfl (zv_exit (fun h => hX _ _ h))
  refine zv_rload_n dX4_ranked_48 2 rfl ?_
  refine zg_RX4_19 dX4_ranked_49 g0 ?_
  refine zv_iload_n dX4_ranked_52 0 rfl ?_
  refine zv_iald dX4_ranked_53 (zta_4_2 hT g0) (ztl_4_2 hT g0) (by decide) ?_
  refine zv_iload dX4_ranked_54 1 rfl ?_
  refine zv_icmp_gt (tgt := 76) dX4_ranked_56 (by decide) ?_ ?_
  · exact zv_sub (L' := [(0, rn w l0), (1, iv l1), (3, iv y3), (4, iv y4)]) [2, 3, 0, 1] rfl (zv_exit (fun h => hX _ _ h))
  refine zv_iload dX4_ranked_59 1 rfl ?_
  refine zv_rload_n dX4_ranked_61 2 rfl ?_
  refine zg_RX4_19 dX4_ranked_62 g0 ?_
  refine zv_iload_n dX4_ranked_65 0 rfl ?_
  refine zv_iald dX4_ranked_66 (zta_4_2 hT g0) (ztl_4_2 hT g0) (by decide) ?_
  refine zv_isub dX4_ranked_67 ?_
  refine zv_istore dX4_ranked_68 (fun x7 => [(4, iv x7), (3, iv y3), (0, rn w l0), (1, iv l1)]) (by decide) (fun _ => rfl) (fun x7 => ?_)
  refine zv_iinc dX4_ranked_70 1 rfl (fun x8 => [(3, iv x8), (4, iv x7), (0, rn w l0), (1, iv l1)]) (by decide) (fun _ => rfl) (fun x8 => ?_)
  refine zv_goto (tgt := 44) dX4_ranked_73 (by decide) ?_
  exact zv_sub (L' := [(3, iv x8), (4, iv x7), (0, rn w l0), (1, iv l1)]) [0, 1, 2, 3] rfl (zv_exit (fun h => h))
theorem vl_X4_ranked_79 {κ : zC} {w : zW} (hw : zWk w)  (l0 : Nat) (l1 : Int) (l3 : Int) (g0 : ztag w.1 l0 = 5) (M0 : zM) (E : ((Unit) ⊕ (zM × Int)) → Prop) (hX : E (.inl ()) → zB cX4_ranked RX4 6 (some .int) κ w (0, 0, 1) 115 [] [] M0) (hR : ∀ r, E (.inr r) → zRt κ w (0, 0, 1) 1 r) (y4 : Int) (y5 : Int) :
    zV cX4_ranked RX4 6 (some .int) κ w (0, 0, 1) 79 [(4, iv y4), (5, iv y5), (0, rn w l0), (1, iv l1), (3, iv l3)] [] M0 (zw2 (fb_X4_ranked_79 w.1 l0 l1 l3 M0) zfu y4 y5) E := by
  have hT := hw.1
  refine zv_loop2 (fun y4 y5 => [(4, iv y4), (5, iv y5), (0, rn w l0), (1, iv l1), (3, iv l3)]) (fun y4 y5 => M0) (fun y4 y5 => ?_) y4 y5
  unfold fb_X4_ranked_79
  refine zv_iload dX4_ranked_79 1 rfl ?_
  refine zv_sipush (z := 256) dX4_ranked_81 (by decide) ?_
  refine zv_icmp_ge (tgt := 115) dX4_ranked_84 (by decide) ?_ ?_
  · exact zv_sub (L' := []) [] rfl (zv_exit (fun h => hX  h))
  refine zv_rload_n dX4_ranked_87 2 rfl ?_
  refine zv_iload_n dX4_ranked_88 3 rfl ?_
  refine zv_iload dX4_ranked_89 1 rfl ?_
  refine zv_pc (zv_callVi [iv l1, iv y5] (c_X4_of κ.2.1 hw l0 l1 y5 M0 g0) zmd_X4_of zwI_X4_of zwS_X4_of zwM_RX4_44 zcd_4 g0 rfl (by decide) rfl (Nat.le_of_ble_eq_true rfl) dX4_ranked_91 (fun mh12 v11 h12 => ?_))
  obtain rfl := zpuE h12
  refine zv_iload_n dX4_ranked_94 4 rfl ?_
  refine zv_icmp_ne (tgt := 109) dX4_ranked_95 (by decide) ?_ ?_
  · refine zv_iinc dX4_ranked_109 1 rfl (fun x13 => [(5, iv x13), (4, iv y4), (0, rn w l0), (1, iv l1), (3, iv l3)]) (by decide) (fun _ => rfl) (fun x13 => ?_)
    refine zv_goto (tgt := 79) dX4_ranked_112 (by decide) ?_
    exact zv_sub (L' := [(4, iv y4), (5, iv x13), (0, rn w l0), (1, iv l1), (3, iv l3)]) [1, 0, 2, 3, 4] rfl (zv_exit (fun h => h))
  refine zv_iload dX4_ranked_98 0 rfl ?_
  refine zv_if_ne (tgt := 106) dX4_ranked_100 (by decide) ?_ ?_
  · refine zv_iinc dX4_ranked_106 0 rfl (fun x14 => [(4, iv x14), (5, iv y5), (0, rn w l0), (1, iv l1), (3, iv l3)]) (by decide) (fun _ => rfl) (fun x14 => ?_)
    refine zv_iinc dX4_ranked_109 1 rfl (fun x15 => [(5, iv x15), (4, iv x14), (0, rn w l0), (1, iv l1), (3, iv l3)]) (by decide) (fun _ => rfl) (fun x15 => ?_)
    refine zv_goto (tgt := 79) dX4_ranked_112 (by decide) ?_
    exact zv_sub (L' := [(4, iv x14), (5, iv x15), (0, rn w l0), (1, iv l1), (3, iv l3)]) [1, 0, 2, 3, 4] rfl (zv_exit (fun h => h))
  refine zv_iload dX4_ranked_103 1 rfl ?_
  exact zv_ret (fun h => hR _ h) (zv_iret dX4_ranked_105)
theorem c_X4_ranked (l : Launch) {w : zW} (hw : zWk w)  (p0 : Nat) (p1 : Int) (p2 : Int) (M0 : zM) (hp0 : ztag w.1 p0 = 5) : zCn l yX4_ranked cX4_ranked 6 (some .int) (1) 1 w [rn w p0, iv p1, iv p2] M0 (f_X4_ranked w.1 p0 p1 p2 M0) := by
  have hT := hw.1
  refine zCn_of (own := RX4) (by decide) rfl hw (Nat.le_of_ble_eq_true rfl) [(0, rn w p0), (1, iv p1), (2, iv p2)] rfl ?_
  intro κ hl
  subst hl
  unfold f_X4_ranked
  refine zv_rload_n dX4_ranked_0 0 rfl ?_
  refine zg_RX4_19 dX4_ranked_1 hp0 ?_
  refine zv_iconst (z := 0) dX4_ranked_4 ?_
  refine zv_vc (zv_callSv [rn w (zfr w.1 p0 2), iv 0] (c_J7_fill_53178 κ.2.1 hw (zfr w.1 p0 2) 0 M0 (zta_4_2 hT hp0) (ztl_4_2 hT hp0)) zmd_J7_fill_53178 zwT_J7_fill_53178 zwM_RX4_22 rfl (by decide) rfl (Nat.le_of_ble_eq_true rfl) dX4_ranked_5 (fun M1 _ _ => ?_))
  refine zv_iconst (z := 0) dX4_ranked_8 ?_
  refine zv_istore_np (L' := [(3, iv 0), (0, rn w p0), (1, iv p1), (2, iv p2)]) (by rfl) dX4_ranked_9 (by decide) rfl ?_
  refine zv_join1 38 (fun M6 => [(0, rn w p0), (1, iv p1), (2, iv p2)]) (fun M6 => []) (fun M6 => M6) (zv_sub (L' := [(3, iv 0), (0, rn w p0), (1, iv p1), (2, iv p2)]) [0, 1, 2, 3] rfl (vl_X4_ranked_10 hw p0 p1 p2 hp0 _ (fun _ h => h) 0 M1)) (fun M6 => ?_)
  refine zv_bipush (z := 99) dX4_ranked_38 (by decide) ?_
  refine zv_istore_np (L' := [(3, iv 99), (0, rn w p0), (1, iv p1), (2, iv p2)]) (by rfl) dX4_ranked_40 (by decide) rfl ?_
  refine zv_iload_n dX4_ranked_41 3 rfl ?_
  refine zv_istore_p (L' := [(4, iv p2), (3, iv 99), (0, rn w p0), (1, iv p1), (2, iv p2)]) dX4_ranked_42 (by decide) rfl ?_
  refine zv_join2 76 (fun x9 x10 => [(0, rn w p0), (1, iv p1), (3, iv x9), (4, iv x10)]) (fun x9 x10 => []) (fun x9 x10 => M6) (zv_sub (L' := [(3, iv 99), (4, iv p2), (0, rn w p0), (1, iv p1)]) [1, 0, 2, 3] rfl (vl_X4_ranked_44 hw p0 p1 hp0 M6 _ (fun _ _ h => h) 99 p2)) (fun x9 x10 => ?_)
  refine zv_iconst (z := 0) dX4_ranked_76 ?_
  refine zv_istore_p (L' := [(5, iv 0), (0, rn w p0), (1, iv p1), (3, iv x9), (4, iv x10)]) dX4_ranked_77 (by decide) rfl ?_
  refine zv_joinS0 (fun r => r) 115 ([]) ([]) (M6) (zv_sub (L' := [(4, iv x10), (5, iv 0), (0, rn w p0), (1, iv p1), (3, iv x9)]) [4, 0, 1, 2, 3] rfl (vl_X4_ranked_79 hw p0 p1 x9 hp0 M6 _ (fun h => h) (fun _ h => ((fun h => h)) h) x10 0)) (?_)
  refine zv_iconst (z := (-1)) dX4_ranked_115 ?_
  exact zv_ret (fun h => h) (zv_iret dX4_ranked_116)
def f_X10_ahead (k : zK)  (p0 : Nat) (p1 : Int) (p2 : Int) (M0 : zM) : Option (zM × Int) :=
  zb1 (f_X10_isAge k p1 M0) (fun v1 => zbr v1 0 (v1 = 0) (some (M0, (-1))) (zbr p2 0 (p2 < 0) (some (M0, (-1))) (zbr p2 256 (p2 < 256) (zb1 (f_X10_settle k p0 M0) (fun M3 => zbd (f_X10_spanKnown k p0 p1 M3) (fun M5 v4 => zbd (f_X4_ranked k (zfr k p0 5) v4 p2 M5) (fun M7 v6 => some (M7, v6))))) (some (M0, (-1))))))
theorem c_X10_ahead (l : Launch) {w : zW} (hw : zWk w)  (p0 : Nat) (p1 : Int) (p2 : Int) (M0 : zM) (hp0 : ztag w.1 p0 = 11) : zCn l yX10_ahead cX10_ahead 3 (some .int) (5) 1 w [rn w p0, iv p1, iv p2] M0 (f_X10_ahead w.1 p0 p1 p2 M0) := by
  have hT := hw.1
  refine zCn_of (own := RX10) (by decide) rfl hw (Nat.le_of_ble_eq_true rfl) [(0, rn w p0), (1, iv p1), (2, iv p2)] rfl ?_
  intro κ hl
  subst hl
  unfold f_X10_ahead
  refine zv_iload_n dX10_ahead_0 1 rfl ?_
  refine zv_pc (zv_callSi [iv p1] (c_X10_isAge κ.2.1 hw p1 M0 ) zmd_X10_isAge zwT_X10_isAge zwM_RX10_197 rfl (by decide) rfl (Nat.le_of_ble_eq_true rfl) dX10_ahead_1 (fun mh2 v1 h2 => ?_))
  obtain rfl := zpuE h2
  refine zv_if_eq (tgt := 18) dX10_ahead_4 (by decide) ?_ ?_
  · refine zv_iconst (z := (-1)) dX10_ahead_18 ?_
    exact zv_ret (fun h => h) (zv_iret dX10_ahead_19)
  refine zv_iload_n dX10_ahead_7 2 rfl ?_
  refine zv_if_lt (tgt := 18) dX10_ahead_8 (by decide) ?_ ?_
  · refine zv_iconst (z := (-1)) dX10_ahead_18 ?_
    exact zv_ret (fun h => h) (zv_iret dX10_ahead_19)
  refine zv_iload_n dX10_ahead_11 2 rfl ?_
  refine zv_sipush (z := 256) dX10_ahead_12 (by decide) ?_
  refine zv_icmp_lt (tgt := 20) dX10_ahead_15 (by decide) ?_ ?_
  · refine zv_rload_n dX10_ahead_20 0 rfl ?_
    refine zv_vc (zv_callVv [] (c_X10_settle κ.2.1 hw p0 M0 hp0) zmd_X10_settle zwI_X10_settle zwS_X10_settle zwM_RX10_213 zcd_10 hp0 rfl (by decide) rfl (Nat.le_of_ble_eq_true rfl) dX10_ahead_21 (fun M3 _ _ => ?_))
    refine zv_rload_n dX10_ahead_24 0 rfl ?_
    refine zg_RX10_42 dX10_ahead_25 hp0 ?_
    refine zv_rload_n dX10_ahead_28 0 rfl ?_
    refine zv_iload_n dX10_ahead_29 1 rfl ?_
    refine (zv_callVi [iv p1] (c_X10_spanKnown κ.2.1 hw p0 p1 M3 hp0) zmd_X10_spanKnown zwI_X10_spanKnown zwS_X10_spanKnown zwM_RX10_310 zcd_10 hp0 rfl (by decide) rfl (Nat.le_of_ble_eq_true rfl) dX10_ahead_30 (fun M5 v4 _ => ?_))
    refine zv_iload_n dX10_ahead_33 2 rfl ?_
    refine (zv_callVi [iv v4, iv p2] (c_X4_ranked κ.2.1 hw (zfr w.1 p0 5) v4 p2 M5 (zta_10_5 hT hp0)) zmd_X4_ranked zwI_X4_ranked zwS_X4_ranked zwM_RX10_313 zcd_4 (zta_10_5 hT hp0) rfl (by decide) rfl (Nat.le_of_ble_eq_true rfl) dX10_ahead_34 (fun M7 v6 _ => ?_))
    exact zv_ret (fun h => h) (zv_iret dX10_ahead_37)
  refine zv_iconst (z := (-1)) dX10_ahead_18 ?_
  exact zv_ret (fun h => h) (zv_iret dX10_ahead_19)
def f_X10_isPart (k : zK)  (p0 : Int) (M0 : zM) : Option Int :=
  zbr p0 0 (p0 = 0) (some 1) (zbr p0 1 (¬ p0 = 1) (some 0) (some 1))
theorem c_X10_isPart (l : Launch) {w : zW} (hw : zWk w)  (p0 : Int) (M0 : zM)  : zCn l yX10_isPart cX10_isPart 1 (some .boolean) (0) 1 w [iv p0] M0 ((f_X10_isPart w.1 p0 M0).map fun v => (M0, v)) := by
  have hT := hw.1
  refine zCn_ofP (own := RX10) (by decide) rfl hw (Nat.le_of_ble_eq_true rfl) [(0, iv p0)] rfl ?_
  intro κ hl
  subst hl
  unfold f_X10_isPart
  refine zv_iload_n dX10_isPart_0 0 rfl ?_
  refine zv_if_eq (tgt := 9) dX10_isPart_1 (by decide) ?_ ?_
  · refine zv_iconst (z := 1) dX10_isPart_9 ?_
    refine zv_goto (tgt := 14) dX10_isPart_10 (by decide) ?_
    exact zv_ret (fun h => h) (zv_zrB (by decide) dX10_isPart_14)
  refine zv_iload_n dX10_isPart_4 0 rfl ?_
  refine zv_iconst (z := 1) dX10_isPart_5 ?_
  refine zv_icmp_ne (tgt := 13) dX10_isPart_6 (by decide) ?_ ?_
  · refine zv_iconst (z := 0) dX10_isPart_13 ?_
    exact zv_ret (fun h => h) (zv_zrB (by decide) dX10_isPart_14)
  refine zv_iconst (z := 1) dX10_isPart_9 ?_
  refine zv_goto (tgt := 14) dX10_isPart_10 (by decide) ?_
  exact zv_ret (fun h => h) (zv_zrB (by decide) dX10_isPart_14)
def fb_X1_spread_44 (k : zK)  (l0 : Nat) (l3 : Int) (y2 : Int) (y4 : Int) (M0 : zM) : Option ((Int × Int × zM) ⊕ (Int × zM)) :=
  zbr y4 4 (4 ≤ y4) (some (.inr (y2, M0))) (zgd (0 ≤ l3 ∧ l3 < 256) (zb1 (f_X10_beside k (M0 (zfr k l0 1) l3.toNat) y4 M0) (fun v3 => zbr v3 (-1) (v3 = (-1)) (zlt (y4 + 1) (fun x5 => some (.inl (y2, x5, M0)))) (zgd (0 ≤ v3 ∧ v3 < 256) (zbr (M0 (zfr k l0 0) v3.toNat) 0 (M0 (zfr k l0 0) v3.toNat = 0) (zlt (y4 + 1) (fun x6 => some (.inl (y2, x6, M0)))) (zbr y2 256 (256 ≤ y2) (zlt (y4 + 1) (fun x7 => some (.inl (y2, x7, M0)))) (zgd (((0 : Int) = 0 ∨ (0 : Int) = 1) ∧ 0 ≤ v3 ∧ v3 < 256) (zlt (zst M0 (zfr k l0 0) v3.toNat (0)) (fun M8 => zgd (0 ≤ y2 ∧ y2 < 256) (zlt (zst M8 (zfr k l0 1) y2.toNat (v3)) (fun M9 => zlt (y2 + 1) (fun x10 => zlt (y4 + 1) (fun x11 => some (.inl (x10, x11, M9)))))))))))))))
def fb_X1_spread_29 (k : zK)  (l0 : Nat) (y2 : Int) (y3 : Int) (M0 : zM) : Option ((Int × Int × zM) ⊕ (Int × zM)) :=
  zbr y3 y2 (y2 ≤ y3) (some (.inr (y2, M0))) (zbr y3 256 (256 ≤ y3) (some (.inr (y2, M0))) (zb2 (zw3 (fb_X1_spread_44 k l0 y3) zfu y2 0 M0) (fun x12 M13 => zlt (y3 + 1) (fun x14 => some (.inl (x12, x14, M13))))))
def f_X1_spread (k : zK)  (p0 : Nat) (p1 : Int) (M0 : zM) : Option (zM × Int) :=
  zgd (0 ≤ p1 ∧ p1 < 256) (zbr (M0 (zfr k p0 0) p1.toNat) 0 (¬ M0 (zfr k p0 0) p1.toNat = 0) (zgd (((0 : Int) = 0 ∨ (0 : Int) = 1) ∧ 0 ≤ p1 ∧ p1 < 256) (zlt (zst M0 (zfr k p0 0) p1.toNat (0)) (fun M1 => zgd (0 ≤ (0 : Int) ∧ (0 : Int) < 256) (zlt (zst M1 (zfr k p0 1) (Int.toNat 0) (p1)) (fun M2 => zb2 (zw3 (fb_X1_spread_29 k p0) zfu 1 0 M2) (fun x15 M16 => some (M16, x15))))))) (some (M0, 0)))
theorem vl_X1_spread_44 {κ : zC} {w : zW} (hw : zWk w)  (l0 : Nat) (l3 : Int) (g0 : ztag w.1 l0 = 2)  (E : (Int × zM) → Prop) (hX : ∀ (u2 : Int) (M1 : zM), E (u2, M1) → zB cX1_spread RX1 6 (some .int) κ w (0, 0, 1) 111 [(0, rn w l0), (2, iv u2), (3, iv l3)] [] M1)  (y2 : Int) (y4 : Int) (M0 : zM) :
    zV cX1_spread RX1 6 (some .int) κ w (0, 0, 1) 44 [(2, iv y2), (4, iv y4), (0, rn w l0), (3, iv l3)] [] M0 (zw3 (fb_X1_spread_44 w.1 l0 l3) zfu y2 y4 M0) E := by
  have hT := hw.1
  refine zv_loop3 (fun y2 y4 M0 => [(2, iv y2), (4, iv y4), (0, rn w l0), (3, iv l3)]) (fun y2 y4 M0 => M0) (fun y2 y4 M0 => ?_) y2 y4 M0
  unfold fb_X1_spread_44
  refine zv_iload dX1_spread_44 1 rfl ?_
  refine zv_iconst (z := 4) dX1_spread_46 ?_
  refine zv_icmp_ge (tgt := 111) dX1_spread_47 (by decide) ?_ ?_
  · exact zv_sub (L' := [(0, rn w l0), (2, iv y2), (3, iv l3)]) [2, 0, 3] rfl (zv_exit (fun h => hX _ _ h))
  refine zv_rload_n dX1_spread_50 2 rfl ?_
  refine zg_RX1_15 dX1_spread_51 g0 ?_
  refine zv_iload_n dX1_spread_54 3 rfl ?_
  refine zv_iald dX1_spread_55 (zta_1_1 hT g0) (ztl_1_1 hT g0) (by decide) ?_
  refine zv_iload dX1_spread_56 1 rfl ?_
  refine zv_pc (zv_callNi [iv (M0 (zfr w.1 l0 1) l3.toNat), iv y4] (c_X10_beside κ.2.1 hw (M0 (zfr w.1 l0 1) l3.toNat) y4 M0 ) zmd_X10_beside zwT_X10_beside zwQ_RX1_19 rfl (by decide) rfl (Nat.le_of_ble_eq_true rfl) dX1_spread_58 (fun mh4 v3 h4 => ?_))
  obtain rfl := zpuE h4
  refine zv_istore_p (L' := [(5, iv v3), (2, iv y2), (4, iv y4), (0, rn w l0), (3, iv l3)]) dX1_spread_61 (by decide) rfl ?_
  refine zv_iload dX1_spread_63 0 rfl ?_
  refine zv_iconst (z := (-1)) dX1_spread_65 ?_
  refine zv_icmp_eq (tgt := 105) dX1_spread_66 (by decide) ?_ ?_
  · refine zv_iinc dX1_spread_105 2 rfl (fun x5 => [(4, iv x5), (5, iv v3), (2, iv y2), (0, rn w l0), (3, iv l3)]) (by decide) (fun _ => rfl) (fun x5 => ?_)
    refine zv_goto (tgt := 44) dX1_spread_108 (by decide) ?_
    exact zv_sub (L' := [(2, iv y2), (4, iv x5), (0, rn w l0), (3, iv l3)]) [2, 0, 3, 4] rfl (zv_exit (fun h => h))
  refine zv_rload_n dX1_spread_69 3 rfl ?_
  refine zg_RX1_9 dX1_spread_70 g0 ?_
  refine zv_iload dX1_spread_73 0 rfl ?_
  refine zv_zald dX1_spread_75 (zta_1_0 hT g0) (ztl_1_0 hT g0) (by decide) ?_
  refine zv_if_eq (tgt := 105) dX1_spread_76 (by decide) ?_ ?_
  · refine zv_iinc dX1_spread_105 2 rfl (fun x6 => [(4, iv x6), (5, iv v3), (2, iv y2), (0, rn w l0), (3, iv l3)]) (by decide) (fun _ => rfl) (fun x6 => ?_)
    refine zv_goto (tgt := 44) dX1_spread_108 (by decide) ?_
    exact zv_sub (L' := [(2, iv y2), (4, iv x6), (0, rn w l0), (3, iv l3)]) [2, 0, 3, 4] rfl (zv_exit (fun h => h))
  refine zv_iload_n dX1_spread_79 1 rfl ?_
  refine zv_sipush (z := 256) dX1_spread_80 (by decide) ?_
  refine zv_icmp_ge (tgt := 105) dX1_spread_83 (by decide) ?_ ?_
  · refine zv_iinc dX1_spread_105 2 rfl (fun x7 => [(4, iv x7), (5, iv v3), (2, iv y2), (0, rn w l0), (3, iv l3)]) (by decide) (fun _ => rfl) (fun x7 => ?_)
    refine zv_goto (tgt := 44) dX1_spread_108 (by decide) ?_
    exact zv_sub (L' := [(2, iv y2), (4, iv x7), (0, rn w l0), (3, iv l3)]) [2, 0, 3, 4] rfl (zv_exit (fun h => h))
  refine zv_rload_n dX1_spread_86 3 rfl ?_
  refine zg_RX1_9 dX1_spread_87 g0 ?_
  refine zv_iload dX1_spread_90 0 rfl ?_
  refine zv_iconst (z := 0) dX1_spread_92 ?_
  refine zv_zast dX1_spread_93 (zta_1_0 hT g0) (ztl_1_0 hT g0) (by decide) (fun M8 => ?_)
  refine zv_rload_n dX1_spread_94 3 rfl ?_
  refine zg_RX1_15 dX1_spread_95 g0 ?_
  refine zv_iload_n dX1_spread_98 1 rfl ?_
  refine zv_iload dX1_spread_99 0 rfl ?_
  refine zv_iast dX1_spread_101 (zta_1_1 hT g0) (ztl_1_1 hT g0) (by decide) (fun M9 => ?_)
  refine zv_iinc dX1_spread_102 1 rfl (fun x10 => [(2, iv x10), (5, iv v3), (4, iv y4), (0, rn w l0), (3, iv l3)]) (by decide) (fun _ => rfl) (fun x10 => ?_)
  refine zv_iinc dX1_spread_105 2 rfl (fun x11 => [(4, iv x11), (2, iv x10), (5, iv v3), (0, rn w l0), (3, iv l3)]) (by decide) (fun _ => rfl) (fun x11 => ?_)
  refine zv_goto (tgt := 44) dX1_spread_108 (by decide) ?_
  exact zv_sub (L' := [(2, iv x10), (4, iv x11), (0, rn w l0), (3, iv l3)]) [1, 0, 3, 4] rfl (zv_exit (fun h => h))
theorem vl_X1_spread_29 {κ : zC} {w : zW} (hw : zWk w)  (l0 : Nat) (g0 : ztag w.1 l0 = 2)  (E : (Int × zM) → Prop) (hX : ∀ (u2 : Int) (M1 : zM), E (u2, M1) → zB cX1_spread RX1 6 (some .int) κ w (0, 0, 1) 117 [(2, iv u2)] [] M1)  (y2 : Int) (y3 : Int) (M0 : zM) :
    zV cX1_spread RX1 6 (some .int) κ w (0, 0, 1) 29 [(2, iv y2), (3, iv y3), (0, rn w l0)] [] M0 (zw3 (fb_X1_spread_29 w.1 l0) zfu y2 y3 M0) E := by
  have hT := hw.1
  refine zv_loop3 (fun y2 y3 M0 => [(2, iv y2), (3, iv y3), (0, rn w l0)]) (fun y2 y3 M0 => M0) (fun y2 y3 M0 => ?_) y2 y3 M0
  unfold fb_X1_spread_29
  refine zv_iload_n dX1_spread_29 1 rfl ?_
  refine zv_iload_n dX1_spread_30 0 rfl ?_
  refine zv_icmp_ge (tgt := 117) dX1_spread_31 (by decide) ?_ ?_
  · exact zv_sub (L' := [(2, iv y2)]) [0] rfl (zv_exit (fun h => hX _ _ h))
  refine zv_iload_n dX1_spread_34 1 rfl ?_
  refine zv_sipush (z := 256) dX1_spread_35 (by decide) ?_
  refine zv_icmp_ge (tgt := 117) dX1_spread_38 (by decide) ?_ ?_
  · exact zv_sub (L' := [(2, iv y2)]) [0] rfl (zv_exit (fun h => hX _ _ h))
  refine zv_iconst (z := 0) dX1_spread_41 ?_
  refine zv_istore_p (L' := [(4, iv 0), (2, iv y2), (3, iv y3), (0, rn w l0)]) dX1_spread_42 (by decide) rfl ?_
  refine zv_join2 111 (fun x12 M13 => [(0, rn w l0), (2, iv x12), (3, iv y3)]) (fun x12 M13 => []) (fun x12 M13 => M13) (zv_sub (L' := [(2, iv y2), (4, iv 0), (0, rn w l0), (3, iv y3)]) [1, 0, 3, 2] rfl (vl_X1_spread_44 hw l0 y3 g0 _ (fun _ _ h => h) y2 0 M0)) (fun x12 M13 => ?_)
  refine zv_iinc dX1_spread_111 2 rfl (fun x14 => [(3, iv x14), (0, rn w l0), (2, iv x12)]) (by decide) (fun _ => rfl) (fun x14 => ?_)
  refine zv_goto (tgt := 29) dX1_spread_114 (by decide) ?_
  exact zv_sub (L' := [(2, iv x12), (3, iv x14), (0, rn w l0)]) [2, 0, 1] rfl (zv_exit (fun h => h))
theorem c_X1_spread (l : Launch) {w : zW} (hw : zWk w)  (p0 : Nat) (p1 : Int) (M0 : zM) (hp0 : ztag w.1 p0 = 2) : zCn l yX1_spread cX1_spread 6 (some .int) (1) 1 w [rn w p0, iv p1] M0 (f_X1_spread w.1 p0 p1 M0) := by
  have hT := hw.1
  refine zCn_of (own := RX1) (by decide) rfl hw (Nat.le_of_ble_eq_true rfl) [(0, rn w p0), (1, iv p1)] rfl ?_
  intro κ hl
  subst hl
  unfold f_X1_spread
  refine zv_rload_n dX1_spread_0 0 rfl ?_
  refine zg_RX1_9 dX1_spread_1 hp0 ?_
  refine zv_iload_n dX1_spread_4 1 rfl ?_
  refine zv_zald dX1_spread_5 (zta_1_0 hT hp0) (ztl_1_0 hT hp0) (by decide) ?_
  refine zv_if_ne (tgt := 11) dX1_spread_6 (by decide) ?_ ?_
  · refine zv_rload_n dX1_spread_11 0 rfl ?_
    refine zg_RX1_9 dX1_spread_12 hp0 ?_
    refine zv_iload_n dX1_spread_15 1 rfl ?_
    refine zv_iconst (z := 0) dX1_spread_16 ?_
    refine zv_zast dX1_spread_17 (zta_1_0 hT hp0) (ztl_1_0 hT hp0) (by decide) (fun M1 => ?_)
    refine zv_rload_n dX1_spread_18 0 rfl ?_
    refine zg_RX1_15 dX1_spread_19 hp0 ?_
    refine zv_iconst (z := 0) dX1_spread_22 ?_
    refine zv_iload_n dX1_spread_23 1 rfl ?_
    refine zv_iast dX1_spread_24 (zta_1_1 hT hp0) (ztl_1_1 hT hp0) (by decide) (fun M2 => ?_)
    refine zv_iconst (z := 1) dX1_spread_25 ?_
    refine zv_istore_np (L' := [(2, iv 1), (0, rn w p0), (1, iv p1)]) (by rfl) dX1_spread_26 (by decide) rfl ?_
    refine zv_iconst (z := 0) dX1_spread_27 ?_
    refine zv_istore_np (L' := [(3, iv 0), (2, iv 1), (0, rn w p0), (1, iv p1)]) (by rfl) dX1_spread_28 (by decide) rfl ?_
    refine zv_join2 117 (fun x15 M16 => [(2, iv x15)]) (fun x15 M16 => []) (fun x15 M16 => M16) (zv_sub (L' := [(2, iv 1), (3, iv 0), (0, rn w p0)]) [1, 0, 2] rfl (vl_X1_spread_29 hw p0 hp0 _ (fun _ _ h => h) 1 0 M2)) (fun x15 M16 => ?_)
    refine zv_iload_n dX1_spread_117 0 rfl ?_
    exact zv_ret (fun h => h) (zv_iret dX1_spread_118)
  refine zv_iconst (z := 0) dX1_spread_9 ?_
  exact zv_ret (fun h => h) (zv_iret dX1_spread_10)
def fb_X10_islandOf_17 (k : zK)  (l0 : Nat) (l1 : Int) (l2 : Int) (y3 : Int) (M0 : zM) : Option ((Int × zM) ⊕ (zM)) :=
  zbr y3 256 (256 ≤ y3) (some (.inr M0)) (zgd (0 ≤ y3 ∧ y3 < 256) (zbr (M0 (zfr k (zfr k l0 4) 3) y3.toNat) l2 (M0 (zfr k (zfr k l0 4) 3) y3.toNat ≤ l2) (zgd (((0 : Int) = 0 ∨ (0 : Int) = 1) ∧ 0 ≤ y3 ∧ y3 < 256) (zlt (zst M0 (zfr k (zfr k l0 6) 0) y3.toNat (0)) (fun M1 => zlt (y3 + 1) (fun x2 => some (.inl (x2, M1)))))) (zgd (((1 : Int) = 0 ∨ (1 : Int) = 1) ∧ 0 ≤ y3 ∧ y3 < 256) (zlt (zst M0 (zfr k (zfr k l0 6) 0) y3.toNat (1)) (fun M3 => zlt (y3 + 1) (fun x4 => some (.inl (x4, M3))))))))
def f_X10_islandOf (k : zK)  (p0 : Nat) (p1 : Int) (p2 : Int) (M0 : zM) : Option (zM × Int) :=
  zgd (0 ≤ p1 ∧ p1 < 256) (zbr (M0 (zfr k (zfr k p0 4) 3) p1.toNat) p2 (p2 < M0 (zfr k (zfr k p0 4) 3) p1.toNat) (zb1 (zw2 (fb_X10_islandOf_17 k p0 p1 p2) zfu 0 M0) (fun M5 => zbd (f_X1_spread k (zfr k p0 6) p1 M5) (fun M7 v6 => some (M7, v6)))) (some (M0, 0)))
theorem vl_X10_islandOf_17 {κ : zC} {w : zW} (hw : zWk w)  (l0 : Nat) (l1 : Int) (l2 : Int) (g0 : ztag w.1 l0 = 11)  (E : (zM) → Prop) (hX : ∀  (M1 : zM), E M1 → zB cX10_islandOf RX10 4 (some .int) κ w (0, 0, 2) 57 [(0, rn w l0), (1, iv l1)] [] M1)  (y3 : Int) (M0 : zM) :
    zV cX10_islandOf RX10 4 (some .int) κ w (0, 0, 2) 17 [(3, iv y3), (0, rn w l0), (1, iv l1), (2, iv l2)] [] M0 (zw2 (fb_X10_islandOf_17 w.1 l0 l1 l2) zfu y3 M0) E := by
  have hT := hw.1
  refine zv_loop2 (fun y3 M0 => [(3, iv y3), (0, rn w l0), (1, iv l1), (2, iv l2)]) (fun y3 M0 => M0) (fun y3 M0 => ?_) y3 M0
  unfold fb_X10_islandOf_17
  refine zv_iload_n dX10_islandOf_17 0 rfl ?_
  refine zv_sipush (z := 256) dX10_islandOf_18 (by decide) ?_
  refine zv_icmp_ge (tgt := 57) dX10_islandOf_21 (by decide) ?_ ?_
  · exact zv_sub (L' := [(0, rn w l0), (1, iv l1)]) [1, 2] rfl (zv_exit (fun h => hX _ h))
  refine zv_rload_n dX10_islandOf_24 1 rfl ?_
  refine zg_RX10_49 dX10_islandOf_25 g0 ?_
  refine zg_RX10_378 dX10_islandOf_28 (zta_10_6 hT g0) ?_
  refine zv_iload_n dX10_islandOf_31 0 rfl ?_
  refine zv_rload_n dX10_islandOf_32 1 rfl ?_
  refine zg_RX10_38 dX10_islandOf_33 g0 ?_
  refine zg_RX10_436 dX10_islandOf_36 (zta_10_4 hT g0) ?_
  refine zv_iload_n dX10_islandOf_39 0 rfl ?_
  refine zv_iald dX10_islandOf_40 (zta_2_3 hT (zta_10_4 hT g0)) (ztl_2_3 hT (zta_10_4 hT g0)) (by decide) ?_
  refine zv_iload_n dX10_islandOf_41 3 rfl ?_
  refine zv_icmp_le (tgt := 49) dX10_islandOf_42 (by decide) ?_ ?_
  · refine zv_iconst (z := 0) dX10_islandOf_49 ?_
    refine zv_zast dX10_islandOf_50 (zta_1_0 hT (zta_10_6 hT g0)) (ztl_1_0 hT (zta_10_6 hT g0)) (by decide) (fun M1 => ?_)
    refine zv_iinc dX10_islandOf_51 0 rfl (fun x2 => [(3, iv x2), (0, rn w l0), (1, iv l1), (2, iv l2)]) (by decide) (fun _ => rfl) (fun x2 => ?_)
    refine zv_goto (tgt := 17) dX10_islandOf_54 (by decide) ?_
    exact zv_sub (L' := [(3, iv x2), (0, rn w l0), (1, iv l1), (2, iv l2)]) [0, 1, 2, 3] rfl (zv_exit (fun h => h))
  refine zv_iconst (z := 1) dX10_islandOf_45 ?_
  refine zv_goto (tgt := 50) dX10_islandOf_46 (by decide) ?_
  refine zv_zast dX10_islandOf_50 (zta_1_0 hT (zta_10_6 hT g0)) (ztl_1_0 hT (zta_10_6 hT g0)) (by decide) (fun M3 => ?_)
  refine zv_iinc dX10_islandOf_51 0 rfl (fun x4 => [(3, iv x4), (0, rn w l0), (1, iv l1), (2, iv l2)]) (by decide) (fun _ => rfl) (fun x4 => ?_)
  refine zv_goto (tgt := 17) dX10_islandOf_54 (by decide) ?_
  exact zv_sub (L' := [(3, iv x4), (0, rn w l0), (1, iv l1), (2, iv l2)]) [0, 1, 2, 3] rfl (zv_exit (fun h => h))
theorem c_X10_islandOf (l : Launch) {w : zW} (hw : zWk w)  (p0 : Nat) (p1 : Int) (p2 : Int) (M0 : zM) (hp0 : ztag w.1 p0 = 11) : zCn l yX10_islandOf cX10_islandOf 4 (some .int) (2) 1 w [rn w p0, iv p1, iv p2] M0 (f_X10_islandOf w.1 p0 p1 p2 M0) := by
  have hT := hw.1
  refine zCn_of (own := RX10) (by decide) rfl hw (Nat.le_of_ble_eq_true rfl) [(0, rn w p0), (1, iv p1), (2, iv p2)] rfl ?_
  intro κ hl
  subst hl
  unfold f_X10_islandOf
  refine zv_rload_n dX10_islandOf_0 0 rfl ?_
  refine zg_RX10_38 dX10_islandOf_1 hp0 ?_
  refine zg_RX10_436 dX10_islandOf_4 (zta_10_4 hT hp0) ?_
  refine zv_iload_n dX10_islandOf_7 1 rfl ?_
  refine zv_iald dX10_islandOf_8 (zta_2_3 hT (zta_10_4 hT hp0)) (ztl_2_3 hT (zta_10_4 hT hp0)) (by decide) ?_
  refine zv_iload_n dX10_islandOf_9 2 rfl ?_
  refine zv_icmp_gt (tgt := 15) dX10_islandOf_10 (by decide) ?_ ?_
  · refine zv_iconst (z := 0) dX10_islandOf_15 ?_
    refine zv_istore_np (L' := [(3, iv 0), (0, rn w p0), (1, iv p1), (2, iv p2)]) (by rfl) dX10_islandOf_16 (by decide) rfl ?_
    refine zv_join1 57 (fun M5 => [(0, rn w p0), (1, iv p1)]) (fun M5 => []) (fun M5 => M5) (zv_sub (L' := [(3, iv 0), (0, rn w p0), (1, iv p1), (2, iv p2)]) [0, 1, 2, 3] rfl (vl_X10_islandOf_17 hw p0 p1 p2 hp0 _ (fun _ h => h) 0 M0)) (fun M5 => ?_)
    refine zv_rload_n dX10_islandOf_57 0 rfl ?_
    refine zg_RX10_49 dX10_islandOf_58 hp0 ?_
    refine zv_iload_n dX10_islandOf_61 1 rfl ?_
    refine (zv_callVi [iv p1] (c_X1_spread κ.2.1 hw (zfr w.1 p0 6) p1 M5 (zta_10_6 hT hp0)) zmd_X1_spread zwI_X1_spread zwS_X1_spread zwM_RX10_439 zcd_1 (zta_10_6 hT hp0) rfl (by decide) rfl (Nat.le_of_ble_eq_true rfl) dX10_islandOf_62 (fun M7 v6 _ => ?_))
    exact zv_ret (fun h => h) (zv_iret dX10_islandOf_65)
  refine zv_iconst (z := 0) dX10_islandOf_13 ?_
  exact zv_ret (fun h => h) (zv_iret dX10_islandOf_14)
def fb_X10_alone_47 (k : zK)  (l0 : Nat) (l1 : Int) (l2 : Int) (l3 : Int) (y4 : Int) (y5 : Int) (y6 : Int) (y7 : Int) (y8 : Int) (M0 : zM) : Option ((Int × Int × Int × Int × Int × zM) ⊕ (Int × Int × zM)) :=
  zbr y8 100 (100 ≤ y8) (some (.inr (y4, y5, M0))) (zgd (ztag k (M0 l0 10).toNat = 4 ∧ (M0 l0 10).toNat ≠ 0) (zlt (M0 l0 10).toNat (fun q6 => zb1 (f_X3_bothLevels k q6 y8 M0) (fun v8 => zsp4 (zbr y8 0 (y8 = 0) (some (.inl (y4, y5, y6, y8))) (zgd (ztag k (M0 l0 10).toNat = 4 ∧ (M0 l0 10).toNat ≠ 0) (zlt (M0 l0 10).toNat (fun q10 => zb1 (f_X3_bothLevels k q10 (y8 - 1) M0) (fun v12 => zbr v8 v12 (v8 = v12) (zsp3 (zbr y7 1 (y7 < 1) (some (.inl (y4, y5, y8))) (zbr y7 l2 (l2 < y7) (some (.inl (y4, y5, y8))) (zlt (y6 + 1) (fun x14 => zbr x14 y4 (x14 ≤ y4) (zlt (y8 + 1) (fun x15 => some (.inr (.inr (.inl (y4, y5, x14, y7, x15, M0)))))) (zlt ((y8 - x14) + 1) (fun x16 => zlt (y8 + 1) (fun x17 => some (.inr (.inr (.inl (x14, x16, x14, y7, x17, M0))))))))))) (fun r => some r) (fun x18 x19 x20 => zbr 0 x18 ((0 : Int) ≤ x18) (zlt (x20 + 1) (fun x21 => some (.inr (.inl (x18, x19, 0, y7, x21, M0))))) (zlt ((x20 - 0) + 1) (fun x22 => zlt (x20 + 1) (fun x23 => some (.inr (.inl (0, x22, 0, y7, x23, M0)))))))) (some (.inl (y4, y5, y6, y8)))))))) (fun r => some r) (fun x24 x25 x26 x27 => zbd (f_X10_islandOf k l0 l1 v8 M0) (fun M29 v28 => zsp3 (zbr v28 1 (v28 < 1) (some (.inl (x24, x25, x27))) (zbr v28 l2 (l2 < v28) (some (.inl (x24, x25, x27))) (zlt (x26 + 1) (fun x30 => zbr x30 x24 (x30 ≤ x24) (zlt (x27 + 1) (fun x31 => some (.inr (.inl (x24, x25, x30, v28, x31, M29))))) (zlt ((x27 - x30) + 1) (fun x32 => zlt (x27 + 1) (fun x33 => some (.inr (.inl (x30, x32, x30, v28, x33, M29)))))))))) (fun r => some r) (fun x34 x35 x36 => zbr 0 x34 ((0 : Int) ≤ x34) (zlt (x36 + 1) (fun x37 => some (.inl (x34, x35, 0, v28, x37, M29)))) (zlt ((x36 - 0) + 1) (fun x38 => zlt (x36 + 1) (fun x39 => some (.inl (0, x38, 0, v28, x39, M29))))))))))))
def f_X10_alone (k : zK)  (p0 : Nat) (p1 : Int) (p2 : Int) (p3 : Int) (M0 : zM) : Option (zM × Int) :=
  zb1 (f_X10_isCell k p1 M0) (fun v1 => zbr v1 0 (v1 = 0) (some (M0, (-1))) (zbr p2 1 (p2 < 1) (some (M0, (-1))) (zbr p2 256 (256 < p2) (some (M0, (-1))) (zb1 (f_X10_isPart k p3 M0) (fun v3 => zbr v3 0 (¬ v3 = 0) (zb1 (f_X10_settle k p0 M0) (fun M5 => zb3 (zw6 (fb_X10_alone_47 k p0 p1 p2 p3) zfu 0 (-1) 0 0 0 M5) (fun x40 x41 M42 => zbr p3 0 (¬ p3 = 0) (some (M42, x41)) (some (M42, x40))))) (some (M0, (-1))))))))
set_option maxRecDepth 20000 in
theorem vl_X10_alone_47 {κ : zC} {w : zW} (hw : zWk w)  (l0 : Nat) (l1 : Int) (l2 : Int) (l3 : Int) (g0 : ztag w.1 l0 = 11)  (E : (Int × Int × zM) → Prop) (hX : ∀ (u4 : Int) (u5 : Int) (M1 : zM), E (u4, u5, M1) → zB cX10_alone RX10 10 (some .int) κ w (0, 0, 5) 143 [(3, iv l3), (4, iv u4), (5, iv u5)] [] M1)  (y4 : Int) (y5 : Int) (y6 : Int) (y7 : Int) (y8 : Int) (M0 : zM) :
    zV cX10_alone RX10 10 (some .int) κ w (0, 0, 5) 47 [(4, iv y4), (5, iv y5), (6, iv y6), (7, iv y7), (8, iv y8), (0, rn w l0), (1, iv l1), (2, iv l2), (3, iv l3)] [] M0 (zw6 (fb_X10_alone_47 w.1 l0 l1 l2 l3) zfu y4 y5 y6 y7 y8 M0) E := by
  have hT := hw.1
  refine zv_loop6 (fun y4 y5 y6 y7 y8 M0 => [(4, iv y4), (5, iv y5), (6, iv y6), (7, iv y7), (8, iv y8), (0, rn w l0), (1, iv l1), (2, iv l2), (3, iv l3)]) (fun y4 y5 y6 y7 y8 M0 => M0) (fun y4 y5 y6 y7 y8 M0 => ?_) y4 y5 y6 y7 y8 M0
  unfold fb_X10_alone_47
  refine zv_iload dX10_alone_47 4 rfl ?_
  refine zv_bipush (z := 100) dX10_alone_49 (by decide) ?_
  refine zv_icmp_ge (tgt := 143) dX10_alone_51 (by decide) ?_ ?_
  · exact zv_sub (L' := [(3, iv l3), (4, iv y4), (5, iv y5)]) [8, 0, 1] rfl (zv_exit (fun h => hX _ _ _ h))
  refine zv_rload_n dX10_alone_54 5 rfl ?_
  refine zg_RX10_74 dX10_alone_55 g0 (fun q6 h7 => ?_)
  refine zv_iload dX10_alone_58 4 rfl ?_
  refine zv_pc (zv_callVi [iv y8] (c_X3_bothLevels κ.2.1 hw q6 y8 M0 h7) zmd_X3_bothLevels zwI_X3_bothLevels zwS_X3_bothLevels zwM_RX10_253 zcd_3 h7 rfl (by decide) rfl (Nat.le_of_ble_eq_true rfl) dX10_alone_60 (fun mh9 v8 h9 => ?_))
  obtain rfl := zpuE h9
  refine zv_istore_p (L' := [(9, iv v8), (4, iv y4), (5, iv y5), (6, iv y6), (7, iv y7), (8, iv y8), (0, rn w l0), (1, iv l1), (2, iv l2), (3, iv l3)]) dX10_alone_63 (by decide) rfl ?_
  refine zv_iload dX10_alone_65 5 rfl ?_
  refine zv_joinS4 (fun r => r) 86 (fun x24 x25 x26 x27 => [(4, iv x24), (5, iv x25), (6, iv x26), (8, iv x27), (9, iv v8), (0, rn w l0), (1, iv l1), (2, iv l2), (3, iv l3)]) (fun x24 x25 x26 x27 => []) (fun x24 x25 x26 x27 => M0) ?_ (fun x24 x25 x26 x27 => ?_)
  · refine zv_if_eq (tgt := 86) dX10_alone_67 (by decide) ?_ ?_
    · exact zv_sub (L' := [(4, iv y4), (5, iv y5), (6, iv y6), (8, iv y8), (9, iv v8), (0, rn w l0), (1, iv l1), (2, iv l2), (3, iv l3)]) [1, 2, 3, 5, 0, 6, 7, 8, 9] rfl (zv_exit (fun h => h))
    refine zv_iload dX10_alone_70 0 rfl ?_
    refine zv_rload_n dX10_alone_72 6 rfl ?_
    refine zg_RX10_74 dX10_alone_73 g0 (fun q10 h11 => ?_)
    refine zv_iload dX10_alone_76 5 rfl ?_
    refine zv_iconst (z := 1) dX10_alone_78 ?_
    refine zv_isub dX10_alone_79 ?_
    refine zv_pc (zv_callVi [iv (y8 - 1)] (c_X3_bothLevels κ.2.1 hw q10 (y8 - 1) M0 h11) zmd_X3_bothLevels zwI_X3_bothLevels zwS_X3_bothLevels zwM_RX10_253 zcd_3 h11 rfl (by decide) rfl (Nat.le_of_ble_eq_true rfl) dX10_alone_80 (fun mh13 v12 h13 => ?_))
    obtain rfl := zpuE h13
    refine zv_icmp_eq (tgt := 95) dX10_alone_83 (by decide) ?_ ?_
    · refine zv_iload dX10_alone_95 4 rfl ?_
      refine zv_iconst (z := 1) dX10_alone_97 ?_
      refine zv_joinS3 (fun r => r) 114 (fun x18 x19 x20 => [(4, iv x18), (5, iv x19), (8, iv x20), (7, iv y7), (0, rn w l0), (1, iv l1), (2, iv l2), (3, iv l3)]) (fun x18 x19 x20 => []) (fun x18 x19 x20 => M0) ?_ (fun x18 x19 x20 => ?_)
      · refine zv_icmp_lt (tgt := 114) dX10_alone_98 (by decide) ?_ ?_
        · exact zv_sub (L' := [(4, iv y4), (5, iv y5), (8, iv y8), (7, iv y7), (0, rn w l0), (1, iv l1), (2, iv l2), (3, iv l3)]) [1, 2, 5, 4, 6, 7, 8, 9] rfl (zv_exit (fun h => h))
        refine zv_iload dX10_alone_101 4 rfl ?_
        refine zv_iload_n dX10_alone_103 8 rfl ?_
        refine zv_icmp_gt (tgt := 114) dX10_alone_104 (by decide) ?_ ?_
        · exact zv_sub (L' := [(4, iv y4), (5, iv y5), (8, iv y8), (7, iv y7), (0, rn w l0), (1, iv l1), (2, iv l2), (3, iv l3)]) [1, 2, 5, 4, 6, 7, 8, 9] rfl (zv_exit (fun h => h))
        refine zv_iload dX10_alone_107 3 rfl ?_
        refine zv_iconst (z := 1) dX10_alone_109 ?_
        refine zv_iadd dX10_alone_110 ?_
        refine zv_goto (tgt := 115) dX10_alone_111 (by decide) ?_
        refine zv_istore dX10_alone_115 (fun x14 => [(6, iv x14), (9, iv v8), (4, iv y4), (5, iv y5), (7, iv y7), (8, iv y8), (0, rn w l0), (1, iv l1), (2, iv l2), (3, iv l3)]) (by decide) (fun _ => rfl) (fun x14 => ?_)
        refine zv_iload dX10_alone_117 0 rfl ?_
        refine zv_iload dX10_alone_119 2 rfl ?_
        refine zv_icmp_le (tgt := 137) dX10_alone_121 (by decide) ?_ ?_
        · refine zv_iinc dX10_alone_137 5 rfl (fun x15 => [(8, iv x15), (6, iv x14), (9, iv v8), (4, iv y4), (5, iv y5), (7, iv y7), (0, rn w l0), (1, iv l1), (2, iv l2), (3, iv l3)]) (by decide) (fun _ => rfl) (fun x15 => ?_)
          refine zv_goto (tgt := 47) dX10_alone_140 (by decide) ?_
          exact zv_sub (L' := [(4, iv y4), (5, iv y5), (6, iv x14), (7, iv y7), (8, iv x15), (0, rn w l0), (1, iv l1), (2, iv l2), (3, iv l3)]) [3, 4, 1, 5, 0, 6, 7, 8, 9] rfl (zv_exit (fun h => h))
        refine zv_iload dX10_alone_124 0 rfl ?_
        refine zv_istore_p (L' := [(4, iv x14), (6, iv x14), (9, iv v8), (5, iv y5), (7, iv y7), (8, iv y8), (0, rn w l0), (1, iv l1), (2, iv l2), (3, iv l3)]) dX10_alone_126 (by decide) rfl ?_
        refine zv_iload dX10_alone_128 5 rfl ?_
        refine zv_iload dX10_alone_130 1 rfl ?_
        refine zv_isub dX10_alone_132 ?_
        refine zv_iconst (z := 1) dX10_alone_133 ?_
        refine zv_iadd dX10_alone_134 ?_
        refine zv_istore dX10_alone_135 (fun x16 => [(5, iv x16), (4, iv x14), (6, iv x14), (9, iv v8), (7, iv y7), (8, iv y8), (0, rn w l0), (1, iv l1), (2, iv l2), (3, iv l3)]) (by decide) (fun _ => rfl) (fun x16 => ?_)
        refine zv_iinc dX10_alone_137 5 rfl (fun x17 => [(8, iv x17), (5, iv x16), (4, iv x14), (6, iv x14), (9, iv v8), (7, iv y7), (0, rn w l0), (1, iv l1), (2, iv l2), (3, iv l3)]) (by decide) (fun _ => rfl) (fun x17 => ?_)
        refine zv_goto (tgt := 47) dX10_alone_140 (by decide) ?_
        exact zv_sub (L' := [(4, iv x14), (5, iv x16), (6, iv x14), (7, iv y7), (8, iv x17), (0, rn w l0), (1, iv l1), (2, iv l2), (3, iv l3)]) [2, 1, 3, 5, 0, 6, 7, 8, 9] rfl (zv_exit (fun h => h))
      refine zv_iconst (z := 0) dX10_alone_114 ?_
      refine zv_istore_p (L' := [(6, iv 0), (4, iv x18), (5, iv x19), (8, iv x20), (7, iv y7), (0, rn w l0), (1, iv l1), (2, iv l2), (3, iv l3)]) dX10_alone_115 (by decide) rfl ?_
      refine zv_iload dX10_alone_117 0 rfl ?_
      refine zv_iload dX10_alone_119 1 rfl ?_
      refine zv_icmp_le (tgt := 137) dX10_alone_121 (by decide) ?_ ?_
      · refine zv_iinc dX10_alone_137 3 rfl (fun x21 => [(8, iv x21), (6, iv 0), (4, iv x18), (5, iv x19), (7, iv y7), (0, rn w l0), (1, iv l1), (2, iv l2), (3, iv l3)]) (by decide) (fun _ => rfl) (fun x21 => ?_)
        refine zv_goto (tgt := 47) dX10_alone_140 (by decide) ?_
        exact zv_sub (L' := [(4, iv x18), (5, iv x19), (6, iv 0), (7, iv y7), (8, iv x21), (0, rn w l0), (1, iv l1), (2, iv l2), (3, iv l3)]) [2, 3, 1, 4, 0, 5, 6, 7, 8] rfl (zv_exit (fun h => h))
      refine zv_iload dX10_alone_124 0 rfl ?_
      refine zv_istore_p (L' := [(4, iv 0), (6, iv 0), (5, iv x19), (8, iv x20), (7, iv y7), (0, rn w l0), (1, iv l1), (2, iv l2), (3, iv l3)]) dX10_alone_126 (by decide) rfl ?_
      refine zv_iload dX10_alone_128 3 rfl ?_
      refine zv_iload dX10_alone_130 1 rfl ?_
      refine zv_isub dX10_alone_132 ?_
      refine zv_iconst (z := 1) dX10_alone_133 ?_
      refine zv_iadd dX10_alone_134 ?_
      refine zv_istore dX10_alone_135 (fun x22 => [(5, iv x22), (4, iv 0), (6, iv 0), (8, iv x20), (7, iv y7), (0, rn w l0), (1, iv l1), (2, iv l2), (3, iv l3)]) (by decide) (fun _ => rfl) (fun x22 => ?_)
      refine zv_iinc dX10_alone_137 3 rfl (fun x23 => [(8, iv x23), (5, iv x22), (4, iv 0), (6, iv 0), (7, iv y7), (0, rn w l0), (1, iv l1), (2, iv l2), (3, iv l3)]) (by decide) (fun _ => rfl) (fun x23 => ?_)
      refine zv_goto (tgt := 47) dX10_alone_140 (by decide) ?_
      exact zv_sub (L' := [(4, iv 0), (5, iv x22), (6, iv 0), (7, iv y7), (8, iv x23), (0, rn w l0), (1, iv l1), (2, iv l2), (3, iv l3)]) [2, 1, 3, 4, 0, 5, 6, 7, 8] rfl (zv_exit (fun h => h))
    exact zv_sub (L' := [(4, iv y4), (5, iv y5), (6, iv y6), (8, iv y8), (9, iv v8), (0, rn w l0), (1, iv l1), (2, iv l2), (3, iv l3)]) [1, 2, 3, 5, 0, 6, 7, 8, 9] rfl (zv_exit (fun h => h))
  refine zv_rload_n dX10_alone_86 5 rfl ?_
  refine zv_iload_n dX10_alone_87 6 rfl ?_
  refine zv_iload dX10_alone_88 4 rfl ?_
  refine (zv_callVi [iv l1, iv v8] (c_X10_islandOf κ.2.1 hw l0 l1 v8 M0 g0) zmd_X10_islandOf zwI_X10_islandOf zwS_X10_islandOf zwM_RX10_256 zcd_10 g0 rfl (by decide) rfl (Nat.le_of_ble_eq_true rfl) dX10_alone_90 (fun M29 v28 _ => ?_))
  refine zv_istore_p (L' := [(7, iv v28), (4, iv x24), (5, iv x25), (6, iv x26), (8, iv x27), (9, iv v8), (0, rn w l0), (1, iv l1), (2, iv l2), (3, iv l3)]) dX10_alone_93 (by decide) rfl ?_
  refine zv_iload dX10_alone_95 0 rfl ?_
  refine zv_iconst (z := 1) dX10_alone_97 ?_
  refine zv_joinS3 (fun r => r) 114 (fun x34 x35 x36 => [(4, iv x34), (5, iv x35), (8, iv x36), (7, iv v28), (0, rn w l0), (1, iv l1), (2, iv l2), (3, iv l3)]) (fun x34 x35 x36 => []) (fun x34 x35 x36 => M29) ?_ (fun x34 x35 x36 => ?_)
  · refine zv_icmp_lt (tgt := 114) dX10_alone_98 (by decide) ?_ ?_
    · exact zv_sub (L' := [(4, iv x24), (5, iv x25), (8, iv x27), (7, iv v28), (0, rn w l0), (1, iv l1), (2, iv l2), (3, iv l3)]) [1, 2, 4, 0, 6, 7, 8, 9] rfl (zv_exit (fun h => h))
    refine zv_iload dX10_alone_101 0 rfl ?_
    refine zv_iload_n dX10_alone_103 8 rfl ?_
    refine zv_icmp_gt (tgt := 114) dX10_alone_104 (by decide) ?_ ?_
    · exact zv_sub (L' := [(4, iv x24), (5, iv x25), (8, iv x27), (7, iv v28), (0, rn w l0), (1, iv l1), (2, iv l2), (3, iv l3)]) [1, 2, 4, 0, 6, 7, 8, 9] rfl (zv_exit (fun h => h))
    refine zv_iload dX10_alone_107 3 rfl ?_
    refine zv_iconst (z := 1) dX10_alone_109 ?_
    refine zv_iadd dX10_alone_110 ?_
    refine zv_goto (tgt := 115) dX10_alone_111 (by decide) ?_
    refine zv_istore dX10_alone_115 (fun x30 => [(6, iv x30), (7, iv v28), (4, iv x24), (5, iv x25), (8, iv x27), (9, iv v8), (0, rn w l0), (1, iv l1), (2, iv l2), (3, iv l3)]) (by decide) (fun _ => rfl) (fun x30 => ?_)
    refine zv_iload dX10_alone_117 0 rfl ?_
    refine zv_iload dX10_alone_119 2 rfl ?_
    refine zv_icmp_le (tgt := 137) dX10_alone_121 (by decide) ?_ ?_
    · refine zv_iinc dX10_alone_137 4 rfl (fun x31 => [(8, iv x31), (6, iv x30), (7, iv v28), (4, iv x24), (5, iv x25), (9, iv v8), (0, rn w l0), (1, iv l1), (2, iv l2), (3, iv l3)]) (by decide) (fun _ => rfl) (fun x31 => ?_)
      refine zv_goto (tgt := 47) dX10_alone_140 (by decide) ?_
      exact zv_sub (L' := [(4, iv x24), (5, iv x25), (6, iv x30), (7, iv v28), (8, iv x31), (0, rn w l0), (1, iv l1), (2, iv l2), (3, iv l3)]) [3, 4, 1, 2, 0, 6, 7, 8, 9] rfl (zv_exit (fun h => h))
    refine zv_iload dX10_alone_124 0 rfl ?_
    refine zv_istore_p (L' := [(4, iv x30), (6, iv x30), (7, iv v28), (5, iv x25), (8, iv x27), (9, iv v8), (0, rn w l0), (1, iv l1), (2, iv l2), (3, iv l3)]) dX10_alone_126 (by decide) rfl ?_
    refine zv_iload dX10_alone_128 4 rfl ?_
    refine zv_iload dX10_alone_130 1 rfl ?_
    refine zv_isub dX10_alone_132 ?_
    refine zv_iconst (z := 1) dX10_alone_133 ?_
    refine zv_iadd dX10_alone_134 ?_
    refine zv_istore dX10_alone_135 (fun x32 => [(5, iv x32), (4, iv x30), (6, iv x30), (7, iv v28), (8, iv x27), (9, iv v8), (0, rn w l0), (1, iv l1), (2, iv l2), (3, iv l3)]) (by decide) (fun _ => rfl) (fun x32 => ?_)
    refine zv_iinc dX10_alone_137 4 rfl (fun x33 => [(8, iv x33), (5, iv x32), (4, iv x30), (6, iv x30), (7, iv v28), (9, iv v8), (0, rn w l0), (1, iv l1), (2, iv l2), (3, iv l3)]) (by decide) (fun _ => rfl) (fun x33 => ?_)
    refine zv_goto (tgt := 47) dX10_alone_140 (by decide) ?_
    exact zv_sub (L' := [(4, iv x30), (5, iv x32), (6, iv x30), (7, iv v28), (8, iv x33), (0, rn w l0), (1, iv l1), (2, iv l2), (3, iv l3)]) [2, 1, 3, 4, 0, 6, 7, 8, 9] rfl (zv_exit (fun h => h))
  refine zv_iconst (z := 0) dX10_alone_114 ?_
  refine zv_istore_p (L' := [(6, iv 0), (4, iv x34), (5, iv x35), (8, iv x36), (7, iv v28), (0, rn w l0), (1, iv l1), (2, iv l2), (3, iv l3)]) dX10_alone_115 (by decide) rfl ?_
  refine zv_iload dX10_alone_117 0 rfl ?_
  refine zv_iload dX10_alone_119 1 rfl ?_
  refine zv_icmp_le (tgt := 137) dX10_alone_121 (by decide) ?_ ?_
  · refine zv_iinc dX10_alone_137 3 rfl (fun x37 => [(8, iv x37), (6, iv 0), (4, iv x34), (5, iv x35), (7, iv v28), (0, rn w l0), (1, iv l1), (2, iv l2), (3, iv l3)]) (by decide) (fun _ => rfl) (fun x37 => ?_)
    refine zv_goto (tgt := 47) dX10_alone_140 (by decide) ?_
    exact zv_sub (L' := [(4, iv x34), (5, iv x35), (6, iv 0), (7, iv v28), (8, iv x37), (0, rn w l0), (1, iv l1), (2, iv l2), (3, iv l3)]) [2, 3, 1, 4, 0, 5, 6, 7, 8] rfl (zv_exit (fun h => h))
  refine zv_iload dX10_alone_124 0 rfl ?_
  refine zv_istore_p (L' := [(4, iv 0), (6, iv 0), (5, iv x35), (8, iv x36), (7, iv v28), (0, rn w l0), (1, iv l1), (2, iv l2), (3, iv l3)]) dX10_alone_126 (by decide) rfl ?_
  refine zv_iload dX10_alone_128 3 rfl ?_
  refine zv_iload dX10_alone_130 1 rfl ?_
  refine zv_isub dX10_alone_132 ?_
  refine zv_iconst (z := 1) dX10_alone_133 ?_
  refine zv_iadd dX10_alone_134 ?_
  refine zv_istore dX10_alone_135 (fun x38 => [(5, iv x38), (4, iv 0), (6, iv 0), (8, iv x36), (7, iv v28), (0, rn w l0), (1, iv l1), (2, iv l2), (3, iv l3)]) (by decide) (fun _ => rfl) (fun x38 => ?_)
  refine zv_iinc dX10_alone_137 3 rfl (fun x39 => [(8, iv x39), (5, iv x38), (4, iv 0), (6, iv 0), (7, iv v28), (0, rn w l0), (1, iv l1), (2, iv l2), (3, iv l3)]) (by decide) (fun _ => rfl) (fun x39 => ?_)
  refine zv_goto (tgt := 47) dX10_alone_140 (by decide) ?_
  exact zv_sub (L' := [(4, iv 0), (5, iv x38), (6, iv 0), (7, iv v28), (8, iv x39), (0, rn w l0), (1, iv l1), (2, iv l2), (3, iv l3)]) [2, 1, 3, 4, 0, 5, 6, 7, 8] rfl (zv_exit (fun h => h))
theorem c_X10_alone (l : Launch) {w : zW} (hw : zWk w)  (p0 : Nat) (p1 : Int) (p2 : Int) (p3 : Int) (M0 : zM) (hp0 : ztag w.1 p0 = 11) : zCn l yX10_alone cX10_alone 10 (some .int) (5) 1 w [rn w p0, iv p1, iv p2, iv p3] M0 (f_X10_alone w.1 p0 p1 p2 p3 M0) := by
  have hT := hw.1
  refine zCn_of (own := RX10) (by decide) rfl hw (Nat.le_of_ble_eq_true rfl) [(0, rn w p0), (1, iv p1), (2, iv p2), (3, iv p3)] rfl ?_
  intro κ hl
  subst hl
  unfold f_X10_alone
  refine zv_iload_n dX10_alone_0 1 rfl ?_
  refine zv_pc (zv_callSi [iv p1] (c_X10_isCell κ.2.1 hw p1 M0 ) zmd_X10_isCell zwT_X10_isCell zwM_RX10_92 rfl (by decide) rfl (Nat.le_of_ble_eq_true rfl) dX10_alone_1 (fun mh2 v1 h2 => ?_))
  obtain rfl := zpuE h2
  refine zv_if_eq (tgt := 26) dX10_alone_4 (by decide) ?_ ?_
  · refine zv_iconst (z := (-1)) dX10_alone_26 ?_
    exact zv_ret (fun h => h) (zv_iret dX10_alone_27)
  refine zv_iload_n dX10_alone_7 2 rfl ?_
  refine zv_iconst (z := 1) dX10_alone_8 ?_
  refine zv_icmp_lt (tgt := 26) dX10_alone_9 (by decide) ?_ ?_
  · refine zv_iconst (z := (-1)) dX10_alone_26 ?_
    exact zv_ret (fun h => h) (zv_iret dX10_alone_27)
  refine zv_iload_n dX10_alone_12 2 rfl ?_
  refine zv_sipush (z := 256) dX10_alone_13 (by decide) ?_
  refine zv_icmp_gt (tgt := 26) dX10_alone_16 (by decide) ?_ ?_
  · refine zv_iconst (z := (-1)) dX10_alone_26 ?_
    exact zv_ret (fun h => h) (zv_iret dX10_alone_27)
  refine zv_iload_n dX10_alone_19 3 rfl ?_
  refine zv_pc (zv_callSi [iv p3] (c_X10_isPart κ.2.1 hw p3 M0 ) zmd_X10_isPart zwT_X10_isPart zwM_RX10_200 rfl (by decide) rfl (Nat.le_of_ble_eq_true rfl) dX10_alone_20 (fun mh4 v3 h4 => ?_))
  obtain rfl := zpuE h4
  refine zv_if_ne (tgt := 28) dX10_alone_23 (by decide) ?_ ?_
  · refine zv_rload_n dX10_alone_28 0 rfl ?_
    refine zv_vc (zv_callVv [] (c_X10_settle κ.2.1 hw p0 M0 hp0) zmd_X10_settle zwI_X10_settle zwS_X10_settle zwM_RX10_213 zcd_10 hp0 rfl (by decide) rfl (Nat.le_of_ble_eq_true rfl) dX10_alone_29 (fun M5 _ _ => ?_))
    refine zv_iconst (z := 0) dX10_alone_32 ?_
    refine zv_istore_p (L' := [(4, iv 0), (0, rn w p0), (1, iv p1), (2, iv p2), (3, iv p3)]) dX10_alone_33 (by decide) rfl ?_
    refine zv_iconst (z := (-1)) dX10_alone_35 ?_
    refine zv_istore_p (L' := [(5, iv (-1)), (4, iv 0), (0, rn w p0), (1, iv p1), (2, iv p2), (3, iv p3)]) dX10_alone_36 (by decide) rfl ?_
    refine zv_iconst (z := 0) dX10_alone_38 ?_
    refine zv_istore_p (L' := [(6, iv 0), (5, iv (-1)), (4, iv 0), (0, rn w p0), (1, iv p1), (2, iv p2), (3, iv p3)]) dX10_alone_39 (by decide) rfl ?_
    refine zv_iconst (z := 0) dX10_alone_41 ?_
    refine zv_istore_p (L' := [(7, iv 0), (6, iv 0), (5, iv (-1)), (4, iv 0), (0, rn w p0), (1, iv p1), (2, iv p2), (3, iv p3)]) dX10_alone_42 (by decide) rfl ?_
    refine zv_iconst (z := 0) dX10_alone_44 ?_
    refine zv_istore_p (L' := [(8, iv 0), (7, iv 0), (6, iv 0), (5, iv (-1)), (4, iv 0), (0, rn w p0), (1, iv p1), (2, iv p2), (3, iv p3)]) dX10_alone_45 (by decide) rfl ?_
    refine zv_join3 143 (fun x40 x41 M42 => [(3, iv p3), (4, iv x40), (5, iv x41)]) (fun x40 x41 M42 => []) (fun x40 x41 M42 => M42) (zv_sub (L' := [(4, iv 0), (5, iv (-1)), (6, iv 0), (7, iv 0), (8, iv 0), (0, rn w p0), (1, iv p1), (2, iv p2), (3, iv p3)]) [4, 3, 2, 1, 0, 5, 6, 7, 8] rfl (vl_X10_alone_47 hw p0 p1 p2 p3 hp0 _ (fun _ _ _ h => h) 0 (-1) 0 0 0 M5)) (fun x40 x41 M42 => ?_)
    refine zv_iload_n dX10_alone_143 0 rfl ?_
    refine zv_if_ne (tgt := 152) dX10_alone_144 (by decide) ?_ ?_
    · refine zv_iload dX10_alone_152 2 rfl ?_
      exact zv_ret (fun h => h) (zv_iret dX10_alone_154)
    refine zv_iload dX10_alone_147 1 rfl ?_
    refine zv_goto (tgt := 154) dX10_alone_149 (by decide) ?_
    exact zv_ret (fun h => h) (zv_iret dX10_alone_154)
  refine zv_iconst (z := (-1)) dX10_alone_26 ?_
  exact zv_ret (fun h => h) (zv_iret dX10_alone_27)
def f_X10_areAges (k : zK)  (p0 : Int) (p1 : Int) (M0 : zM) : Option Int :=
  zb1 (f_X10_isAge k p0 M0) (fun v1 => zbr v1 0 (v1 = 0) (some 0) (zb1 (f_X10_isAge k p1 M0) (fun v3 => zbr v3 0 (v3 = 0) (some 0) (zbr p0 p1 (p1 < p0) (some 0) (some 1)))))
theorem c_X10_areAges (l : Launch) {w : zW} (hw : zWk w)  (p0 : Int) (p1 : Int) (M0 : zM)  : zCn l yX10_areAges cX10_areAges 2 (some .boolean) (1) 1 w [iv p0, iv p1] M0 ((f_X10_areAges w.1 p0 p1 M0).map fun v => (M0, v)) := by
  have hT := hw.1
  refine zCn_ofP (own := RX10) (by decide) rfl hw (Nat.le_of_ble_eq_true rfl) [(0, iv p0), (1, iv p1)] rfl ?_
  intro κ hl
  subst hl
  unfold f_X10_areAges
  refine zv_iload_n dX10_areAges_0 0 rfl ?_
  refine zv_pc (zv_callSi [iv p0] (c_X10_isAge κ.2.1 hw p0 M0 ) zmd_X10_isAge zwT_X10_isAge zwM_RX10_197 rfl (by decide) rfl (Nat.le_of_ble_eq_true rfl) dX10_areAges_1 (fun mh2 v1 h2 => ?_))
  obtain rfl := zpuE h2
  refine zv_if_eq (tgt := 23) dX10_areAges_4 (by decide) ?_ ?_
  · refine zv_iconst (z := 0) dX10_areAges_23 ?_
    exact zv_ret (fun h => h) (zv_zrB (by decide) dX10_areAges_24)
  refine zv_iload_n dX10_areAges_7 1 rfl ?_
  refine zv_pc (zv_callSi [iv p1] (c_X10_isAge κ.2.1 hw p1 M0 ) zmd_X10_isAge zwT_X10_isAge zwM_RX10_197 rfl (by decide) rfl (Nat.le_of_ble_eq_true rfl) dX10_areAges_8 (fun mh4 v3 h4 => ?_))
  obtain rfl := zpuE h4
  refine zv_if_eq (tgt := 23) dX10_areAges_11 (by decide) ?_ ?_
  · refine zv_iconst (z := 0) dX10_areAges_23 ?_
    exact zv_ret (fun h => h) (zv_zrB (by decide) dX10_areAges_24)
  refine zv_iload_n dX10_areAges_14 0 rfl ?_
  refine zv_iload_n dX10_areAges_15 1 rfl ?_
  refine zv_icmp_gt (tgt := 23) dX10_areAges_16 (by decide) ?_ ?_
  · refine zv_iconst (z := 0) dX10_areAges_23 ?_
    exact zv_ret (fun h => h) (zv_zrB (by decide) dX10_areAges_24)
  refine zv_iconst (z := 1) dX10_areAges_19 ?_
  refine zv_goto (tgt := 24) dX10_areAges_20 (by decide) ?_
  exact zv_ret (fun h => h) (zv_zrB (by decide) dX10_areAges_24)
def f_X10_viewAt (k : zK)  (p0 : Nat) (p1 : Int) (M0 : zM) : Option (zM × Int) :=
  zb1 (f_X10_settle k p0 M0) (fun M1 => zgd (ztag k (M1 p0 10).toNat = 4 ∧ (M1 p0 10).toNat ≠ 0) (zlt (M1 p0 10).toNat (fun q2 => zb1 (f_X3_bothLevels k q2 p1 M1) (fun v4 => zb1 (f_X8_turnTo k (zfr k p0 3) v4 M1) (fun M6 => some (M6, ((zfr k p0 3) : Int)))))))
theorem c_X10_viewAt (l : Launch) {w : zW} (hw : zWk w)  (p0 : Nat) (p1 : Int) (M0 : zM) (hp0 : ztag w.1 p0 = 11) : zCn l yX10_viewAt cX10_viewAt 2 (some (.object "DrownedLand$View")) (5) 3 w [rn w p0, iv p1] M0 (f_X10_viewAt w.1 p0 p1 M0) := by
  have hT := hw.1
  refine zCn_of (own := RX10) (by decide) rfl hw (Nat.le_of_ble_eq_true rfl) [(0, rn w p0), (1, iv p1)] rfl ?_
  intro κ hl
  subst hl
  unfold f_X10_viewAt
  refine zv_rload_n dX10_viewAt_0 0 rfl ?_
  refine zv_vc (zv_callVv [] (c_X10_settle κ.2.1 hw p0 M0 hp0) zmd_X10_settle zwI_X10_settle zwS_X10_settle zwM_RX10_213 zcd_10 hp0 rfl (by decide) rfl (Nat.le_of_ble_eq_true rfl) dX10_viewAt_1 (fun M1 _ _ => ?_))
  refine zv_rload_n dX10_viewAt_4 0 rfl ?_
  refine zg_RX10_30 dX10_viewAt_5 hp0 ?_
  refine zv_rload_n dX10_viewAt_8 0 rfl ?_
  refine zg_RX10_74 dX10_viewAt_9 hp0 (fun q2 h3 => ?_)
  refine zv_iload_n dX10_viewAt_12 1 rfl ?_
  refine zv_pc (zv_callVi [iv p1] (c_X3_bothLevels κ.2.1 hw q2 p1 M1 h3) zmd_X3_bothLevels zwI_X3_bothLevels zwS_X3_bothLevels zwM_RX10_253 zcd_3 h3 rfl (by decide) rfl (Nat.le_of_ble_eq_true rfl) dX10_viewAt_13 (fun mh5 v4 h5 => ?_))
  obtain rfl := zpuE h5
  refine zv_vc (zv_callVv [iv v4] (c_X8_turnTo κ.2.1 hw (zfr w.1 p0 3) v4 M1 (zta_10_3 hT hp0)) zmd_X8_turnTo zwI_X8_turnTo zwS_X8_turnTo zwM_RX10_433 zcd_8 (zta_10_3 hT hp0) rfl (by decide) rfl (Nat.le_of_ble_eq_true rfl) dX10_viewAt_16 (fun M6 _ _ => ?_))
  refine zv_rload_n dX10_viewAt_19 0 rfl ?_
  refine zg_RX10_30 dX10_viewAt_20 hp0 ?_
  exact zv_ret (fun h => h) (zv_rret (by first | exact Or.inl ⟨_, rfl⟩ | exact Or.inr ⟨_, rfl⟩) dX10_viewAt_23)
def f_X8_kindOf (k : zK)  (p0 : Nat) (p1 : Int) (M0 : zM) : Option Int :=
  zgd (0 ≤ p1 ∧ p1 < 256) (zb1 (zbr (M0 (zfr k (zfr k p0 2) 5) p1.toNat) 9 (M0 (zfr k (zfr k p0 2) 5) p1.toNat ≤ 9) (some (0)) (some (1))) (fun x1 => zgd (0 ≤ p1 ∧ p1 < 256) (zb1 (zbr (M0 (zfr k p0 1) p1.toNat) 3 (3 ≤ M0 (zfr k p0 1) p1.toNat) (some (0)) (some (2))) (fun x2 => zlt (x1 + x2) (fun x3 => zgd (0 ≤ p1 ∧ p1 < 256) (zb1 (zbr (M0 (zfr k (zfr k p0 2) 6) p1.toNat) 3 (M0 (zfr k (zfr k p0 2) 6) p1.toNat ≤ 3) (some (0)) (some (4))) (fun x4 => zlt (x3 + x4) (fun x5 => zb1 (f_X8_heightOf k p0 p1 M0) (fun v6 => zbr v6 20 (20 ≤ v6) (zlt (x5 + 0) (fun x8 => some x8)) (zlt (x5 + 8) (fun x9 => some x9)))))))))))
set_option maxRecDepth 20000 in
theorem c_X8_kindOf (l : Launch) {w : zW} (hw : zWk w)  (p0 : Nat) (p1 : Int) (M0 : zM) (hp0 : ztag w.1 p0 = 9) : zCn l yX8_kindOf cX8_kindOf 3 (some .int) (1) 1 w [rn w p0, iv p1] M0 ((f_X8_kindOf w.1 p0 p1 M0).map fun v => (M0, v)) := by
  have hT := hw.1
  refine zCn_ofP (own := RX8) (by decide) rfl hw (Nat.le_of_ble_eq_true rfl) [(0, rn w p0), (1, iv p1)] rfl ?_
  intro κ hl
  subst hl
  unfold f_X8_kindOf
  refine zv_rload_n dX8_kindOf_0 0 rfl ?_
  refine zg_RX8_22 dX8_kindOf_1 hp0 ?_
  refine zg_RX8_54 dX8_kindOf_4 (zta_8_2 hT hp0) ?_
  refine zv_iload_n dX8_kindOf_7 1 rfl ?_
  refine zv_iald dX8_kindOf_8 (zta_2_5 hT (zta_8_2 hT hp0)) (ztl_2_5 hT (zta_8_2 hT hp0)) (by decide) ?_
  refine zv_bipush (z := 9) dX8_kindOf_9 (by decide) ?_
  refine zv_join1 19 (fun x1 => [(0, rn w p0), (1, iv p1)]) (fun x1 => [iv x1]) (fun x1 => M0) ?_ (fun x1 => ?_)
  · refine zv_icmp_le (tgt := 18) dX8_kindOf_11 (by decide) ?_ ?_
    · refine zv_iconst (z := 0) dX8_kindOf_18 ?_
      exact zv_sub (L' := [(0, rn w p0), (1, iv p1)]) [0, 1] rfl (zv_exit (fun h => h))
    refine zv_iconst (z := 1) dX8_kindOf_14 ?_
    refine zv_goto (tgt := 19) dX8_kindOf_15 (by decide) ?_
    exact zv_sub (L' := [(0, rn w p0), (1, iv p1)]) [0, 1] rfl (zv_exit (fun h => h))
  refine zv_istore_np (L' := [(2, iv x1), (0, rn w p0), (1, iv p1)]) (by rfl) dX8_kindOf_19 (by decide) rfl ?_
  refine zv_iload_n dX8_kindOf_20 0 rfl ?_
  refine zv_rload_n dX8_kindOf_21 1 rfl ?_
  refine zg_RX8_15 dX8_kindOf_22 hp0 ?_
  refine zv_iload_n dX8_kindOf_25 2 rfl ?_
  refine zv_iald dX8_kindOf_26 (zta_8_1 hT hp0) (ztl_8_1 hT hp0) (by decide) ?_
  refine zv_iconst (z := 3) dX8_kindOf_27 ?_
  refine zv_join1 36 (fun x2 => [(0, rn w p0), (1, iv p1)]) (fun x2 => [iv x2, iv x1]) (fun x2 => M0) ?_ (fun x2 => ?_)
  · refine zv_icmp_ge (tgt := 35) dX8_kindOf_28 (by decide) ?_ ?_
    · refine zv_iconst (z := 0) dX8_kindOf_35 ?_
      exact zv_sub (L' := [(0, rn w p0), (1, iv p1)]) [1, 2] rfl (zv_exit (fun h => h))
    refine zv_iconst (z := 2) dX8_kindOf_31 ?_
    refine zv_goto (tgt := 36) dX8_kindOf_32 (by decide) ?_
    exact zv_sub (L' := [(0, rn w p0), (1, iv p1)]) [1, 2] rfl (zv_exit (fun h => h))
  refine zv_iadd dX8_kindOf_36 ?_
  refine zv_istore_n (i := 2) (by rfl) dX8_kindOf_37 (fun x3 => [(2, iv x3), (0, rn w p0), (1, iv p1)]) (by decide) (fun _ => rfl) (fun x3 => ?_)
  refine zv_iload_n dX8_kindOf_38 0 rfl ?_
  refine zv_rload_n dX8_kindOf_39 1 rfl ?_
  refine zg_RX8_22 dX8_kindOf_40 hp0 ?_
  refine zg_RX8_57 dX8_kindOf_43 (zta_8_2 hT hp0) ?_
  refine zv_iload_n dX8_kindOf_46 2 rfl ?_
  refine zv_iald dX8_kindOf_47 (zta_2_6 hT (zta_8_2 hT hp0)) (ztl_2_6 hT (zta_8_2 hT hp0)) (by decide) ?_
  refine zv_iconst (z := 3) dX8_kindOf_48 ?_
  refine zv_join1 57 (fun x4 => [(0, rn w p0), (1, iv p1)]) (fun x4 => [iv x4, iv x3]) (fun x4 => M0) ?_ (fun x4 => ?_)
  · refine zv_icmp_le (tgt := 56) dX8_kindOf_49 (by decide) ?_ ?_
    · refine zv_iconst (z := 0) dX8_kindOf_56 ?_
      exact zv_sub (L' := [(0, rn w p0), (1, iv p1)]) [1, 2] rfl (zv_exit (fun h => h))
    refine zv_iconst (z := 4) dX8_kindOf_52 ?_
    refine zv_goto (tgt := 57) dX8_kindOf_53 (by decide) ?_
    exact zv_sub (L' := [(0, rn w p0), (1, iv p1)]) [1, 2] rfl (zv_exit (fun h => h))
  refine zv_iadd dX8_kindOf_57 ?_
  refine zv_istore_n (i := 2) (by rfl) dX8_kindOf_58 (fun x5 => [(2, iv x5), (0, rn w p0), (1, iv p1)]) (by decide) (fun _ => rfl) (fun x5 => ?_)
  refine zv_iload_n dX8_kindOf_59 0 rfl ?_
  refine zv_rload_n dX8_kindOf_60 1 rfl ?_
  refine zv_iload_n dX8_kindOf_61 2 rfl ?_
  refine zv_pc (zv_callVi [iv p1] (c_X8_heightOf κ.2.1 hw p0 p1 M0 hp0) zmd_X8_heightOf zwI_X8_heightOf zwS_X8_heightOf zwM_RX8_50 zcd_8 hp0 rfl (by decide) rfl (Nat.le_of_ble_eq_true rfl) dX8_kindOf_62 (fun mh7 v6 h7 => ?_))
  obtain rfl := zpuE h7
  refine zv_bipush (z := 20) dX8_kindOf_65 (by decide) ?_
  refine zv_icmp_ge (tgt := 75) dX8_kindOf_67 (by decide) ?_ ?_
  · refine zv_iconst (z := 0) dX8_kindOf_75 ?_
    refine zv_iadd dX8_kindOf_76 ?_
    refine zv_istore_n (i := 2) (by rfl) dX8_kindOf_77 (fun x8 => [(2, iv x8), (0, rn w p0), (1, iv p1)]) (by decide) (fun _ => rfl) (fun x8 => ?_)
    refine zv_iload_n dX8_kindOf_78 0 rfl ?_
    exact zv_ret (fun h => h) (zv_iret dX8_kindOf_79)
  refine zv_bipush (z := 8) dX8_kindOf_70 (by decide) ?_
  refine zv_goto (tgt := 76) dX8_kindOf_72 (by decide) ?_
  refine zv_iadd dX8_kindOf_76 ?_
  refine zv_istore_n (i := 2) (by rfl) dX8_kindOf_77 (fun x9 => [(2, iv x9), (0, rn w p0), (1, iv p1)]) (by decide) (fun _ => rfl) (fun x9 => ?_)
  refine zv_iload_n dX8_kindOf_78 0 rfl ?_
  exact zv_ret (fun h => h) (zv_iret dX8_kindOf_79)
def f_X10_asked (k : zK)  (p0 : Nat) (p1 : Int) (p2 : Int) (p3 : Int) (M0 : zM) : Option (zM × Int) :=
  zb1 (f_X10_isCell k p1 M0) (fun v1 => zbr v1 0 (v1 = 0) (some (M0, (-1))) (zb1 (f_X10_isAge k p2 M0) (fun v3 => zbr v3 0 (¬ v3 = 0) (zbd (f_X10_viewAt k p0 p2 M0) (fun M6 v5 => zgd (ztag k v5.toNat = 9) (zgd (zr p3) (if p3 = 0 then (zgd (0 ≤ p1 ∧ p1 < 256) (zbr (M6 (zfr k (v5.toNat) 0) p1.toNat) 0 (M6 (zfr k (v5.toNat) 0) p1.toNat = 0) (some (M6, 0)) (some (M6, 1)))) else (if p3 = 1 then (zb1 (f_X8_heightOf k (v5.toNat) p1 M6) (fun v13 => some (M6, v13))) else (if p3 = 2 then (zgd (0 ≤ p1 ∧ p1 < 256) (some (M6, M6 (zfr k (v5.toNat) 1) p1.toNat))) else (if p3 = 3 then (zgd (0 ≤ p1 ∧ p1 < 256) (some (M6, M6 (zfr k (zfr k p0 4) 6) p1.toNat))) else (if p3 = 4 then (zgd (ztag k (M6 p0 10).toNat = 4 ∧ (M6 p0 10).toNat ≠ 0) (zlt (M6 p0 10).toNat (fun q21 => zb1 (f_X3_bothLevels k q21 p2 M6) (fun v23 => zbd (f_X10_islandOf k p0 p1 v23 M6) (fun M26 v25 => some (M26, v25)))))) else (if p3 = 5 then (zgd (0 ≤ p1 ∧ p1 < 256) (zbr (M6 (zfr k (v5.toNat) 0) p1.toNat) 0 (M6 (zfr k (v5.toNat) 0) p1.toNat = 0) (some (M6, 0)) (zgd (ztag k (M6 p0 10).toNat = 4 ∧ (M6 p0 10).toNat ≠ 0) (zlt (M6 p0 10).toNat (fun q29 => zbd (f_X8_wordsOf k (v5.toNat) p1 p2 M6) (fun M32 v31 => zgd (ztag k v31.toNat = 20 ∧ ((zlen k v31.toNat : Nat) : Int) = 8) (zb1 (f_X3_first k q29 2 (v31.toNat) 0 M32) (fun v34 => some (M32, v34))))))))) else (if p3 = 6 then (zgd (ztag k (M6 p0 10).toNat = 4 ∧ (M6 p0 10).toNat ≠ 0) (zlt (M6 p0 10).toNat (fun q38 => zbd (f_X8_wordsOf k (v5.toNat) p1 p2 M6) (fun M41 v40 => zgd (ztag k v40.toNat = 20 ∧ ((zlen k v40.toNat : Nat) : Int) = 8) (zb1 (f_X3_first k q38 3 (v40.toNat) 0 M41) (fun v43 => some (M41, v43))))))) else (if p3 = 7 then (zgd (ztag k (M6 p0 10).toNat = 4 ∧ (M6 p0 10).toNat ≠ 0) (zlt (M6 p0 10).toNat (fun q47 => zbd (f_X8_wordsOf k (v5.toNat) p1 p2 M6) (fun M50 v49 => zgd (ztag k v49.toNat = 20 ∧ ((zlen k v49.toNat : Nat) : Int) = 8) (zb1 (f_X3_first k q47 4 (v49.toNat) 100 M50) (fun v52 => some (M50, v52))))))) else (if p3 = 8 then (zb1 (f_X8_kindOf k (v5.toNat) p1 M6) (fun v56 => some (M6, v56))) else (some (M6, (-1))))))))))))))) (some (M0, (-1))))))
set_option maxRecDepth 20000 in
theorem c_X10_asked (l : Launch) {w : zW} (hw : zWk w)  (p0 : Nat) (p1 : Int) (p2 : Int) (p3 : Int) (M0 : zM) (hp0 : ztag w.1 p0 = 11) : zCn l yX10_asked cX10_asked 5 (some .int) (6) 1 w [rn w p0, iv p1, iv p2, iv p3] M0 (f_X10_asked w.1 p0 p1 p2 p3 M0) := by
  have hT := hw.1
  refine zCn_of (own := RX10) (by decide) rfl hw (Nat.le_of_ble_eq_true rfl) [(0, rn w p0), (1, iv p1), (2, iv p2), (3, iv p3)] rfl ?_
  intro κ hl
  subst hl
  unfold f_X10_asked
  refine zv_iload_n dX10_asked_0 1 rfl ?_
  refine zv_pc (zv_callSi [iv p1] (c_X10_isCell κ.2.1 hw p1 M0 ) zmd_X10_isCell zwT_X10_isCell zwM_RX10_92 rfl (by decide) rfl (Nat.le_of_ble_eq_true rfl) dX10_asked_1 (fun mh2 v1 h2 => ?_))
  obtain rfl := zpuE h2
  refine zv_if_eq (tgt := 14) dX10_asked_4 (by decide) ?_ ?_
  · refine zv_iconst (z := (-1)) dX10_asked_14 ?_
    exact zv_ret (fun h => h) (zv_iret dX10_asked_15)
  refine zv_iload_n dX10_asked_7 2 rfl ?_
  refine zv_pc (zv_callSi [iv p2] (c_X10_isAge κ.2.1 hw p2 M0 ) zmd_X10_isAge zwT_X10_isAge zwM_RX10_197 rfl (by decide) rfl (Nat.le_of_ble_eq_true rfl) dX10_asked_8 (fun mh4 v3 h4 => ?_))
  obtain rfl := zpuE h4
  refine zv_if_ne (tgt := 16) dX10_asked_11 (by decide) ?_ ?_
  · refine zv_rload_n dX10_asked_16 0 rfl ?_
    refine zv_iload_n dX10_asked_17 2 rfl ?_
    refine (zv_callVr [iv p2] (c_X10_viewAt κ.2.1 hw p0 p2 M0 hp0) zmd_X10_viewAt zwI_X10_viewAt zwS_X10_viewAt zwM_RX10_236 zcd_10 hp0 rfl (by decide) rfl (Nat.le_of_ble_eq_true rfl) dX10_asked_18 (fun M6 v5 _ => ?_))
    refine zv_gd (fun h7 => ?_)
    refine zv_rstore_p (L' := [(4, rn w (v5.toNat)), (0, rn w p0), (1, iv p1), (2, iv p2), (3, iv p3)]) dX10_asked_21 (by decide) rfl ?_
    refine zv_iload_n dX10_asked_23 4 rfl ?_
    refine zv_gd (fun h8 => ?_)
    refine zv_ite (fun h9 => ?_) (fun h10 => ?_)
    · refine zv_tin (tgt := 76) dX10_asked_24 h9 (by decide) (by decide) (by decide) rfl (by decide) ?_
      refine zv_rload dX10_asked_76 0 rfl ?_
      refine zg_RX10_240 dX10_asked_78 h7 ?_
      refine zv_iload_n dX10_asked_81 2 rfl ?_
      refine zv_zald dX10_asked_82 (zta_8_0 hT h7) (ztl_8_0 hT h7) (by decide) ?_
      refine zv_if_eq (tgt := 90) dX10_asked_83 (by decide) ?_ ?_
      · refine zv_iconst (z := 0) dX10_asked_90 ?_
        exact zv_ret (fun h => h) (zv_iret dX10_asked_91)
      refine zv_iconst (z := 1) dX10_asked_86 ?_
      refine zv_goto (tgt := 91) dX10_asked_87 (by decide) ?_
      exact zv_ret (fun h => h) (zv_iret dX10_asked_91)
    refine zv_ite (fun h11 => ?_) (fun h12 => ?_)
    · refine zv_tin (tgt := 92) dX10_asked_24 h11 (by decide) (by decide) (by decide) rfl (by decide) ?_
      refine zv_rload dX10_asked_92 0 rfl ?_
      refine zv_iload_n dX10_asked_94 2 rfl ?_
      refine zv_pc (zv_callVi [iv p1] (c_X8_heightOf κ.2.1 hw (v5.toNat) p1 M6 h7) zmd_X8_heightOf zwI_X8_heightOf zwS_X8_heightOf zwM_RX10_244 zcd_8 h7 rfl (by decide) rfl (Nat.le_of_ble_eq_true rfl) dX10_asked_95 (fun mh14 v13 h14 => ?_))
      obtain rfl := zpuE h14
      exact zv_ret (fun h => h) (zv_iret dX10_asked_98)
    refine zv_ite (fun h15 => ?_) (fun h16 => ?_)
    · refine zv_tin (tgt := 99) dX10_asked_24 h15 (by decide) (by decide) (by decide) rfl (by decide) ?_
      refine zv_rload dX10_asked_99 0 rfl ?_
      refine zg_RX10_247 dX10_asked_101 h7 ?_
      refine zv_iload_n dX10_asked_104 2 rfl ?_
      refine zv_iald dX10_asked_105 (zta_8_1 hT h7) (ztl_8_1 hT h7) (by decide) ?_
      exact zv_ret (fun h => h) (zv_iret dX10_asked_106)
    refine zv_ite (fun h17 => ?_) (fun h18 => ?_)
    · refine zv_tin (tgt := 107) dX10_asked_24 h17 (by decide) (by decide) (by decide) rfl (by decide) ?_
      refine zv_rload_n dX10_asked_107 1 rfl ?_
      refine zg_RX10_38 dX10_asked_108 hp0 ?_
      refine zg_RX10_250 dX10_asked_111 (zta_10_4 hT hp0) ?_
      refine zv_iload_n dX10_asked_114 2 rfl ?_
      refine zv_iald dX10_asked_115 (zta_2_6 hT (zta_10_4 hT hp0)) (ztl_2_6 hT (zta_10_4 hT hp0)) (by decide) ?_
      exact zv_ret (fun h => h) (zv_iret dX10_asked_116)
    refine zv_ite (fun h19 => ?_) (fun h20 => ?_)
    · refine zv_tin (tgt := 117) dX10_asked_24 h19 (by decide) (by decide) (by decide) rfl (by decide) ?_
      refine zv_rload_n dX10_asked_117 1 rfl ?_
      refine zv_iload_n dX10_asked_118 2 rfl ?_
      refine zv_rload_n dX10_asked_119 1 rfl ?_
      refine zg_RX10_74 dX10_asked_120 hp0 (fun q21 h22 => ?_)
      refine zv_iload_n dX10_asked_123 3 rfl ?_
      refine zv_pc (zv_callVi [iv p2] (c_X3_bothLevels κ.2.1 hw q21 p2 M6 h22) zmd_X3_bothLevels zwI_X3_bothLevels zwS_X3_bothLevels zwM_RX10_253 zcd_3 h22 rfl (by decide) rfl (Nat.le_of_ble_eq_true rfl) dX10_asked_124 (fun mh24 v23 h24 => ?_))
      obtain rfl := zpuE h24
      refine (zv_callVi [iv p1, iv v23] (c_X10_islandOf κ.2.1 hw p0 p1 v23 M6 hp0) zmd_X10_islandOf zwI_X10_islandOf zwS_X10_islandOf zwM_RX10_256 zcd_10 hp0 rfl (by decide) rfl (Nat.le_of_ble_eq_true rfl) dX10_asked_127 (fun M26 v25 _ => ?_))
      exact zv_ret (fun h => h) (zv_iret dX10_asked_130)
    refine zv_ite (fun h27 => ?_) (fun h28 => ?_)
    · refine zv_tin (tgt := 131) dX10_asked_24 h27 (by decide) (by decide) (by decide) rfl (by decide) ?_
      refine zv_rload dX10_asked_131 0 rfl ?_
      refine zg_RX10_240 dX10_asked_133 h7 ?_
      refine zv_iload_n dX10_asked_136 2 rfl ?_
      refine zv_zald dX10_asked_137 (zta_8_0 hT h7) (ztl_8_0 hT h7) (by decide) ?_
      refine zv_if_eq (tgt := 160) dX10_asked_138 (by decide) ?_ ?_
      · refine zv_iconst (z := 0) dX10_asked_160 ?_
        exact zv_ret (fun h => h) (zv_iret dX10_asked_161)
      refine zv_rload_n dX10_asked_141 1 rfl ?_
      refine zg_RX10_74 dX10_asked_142 hp0 (fun q29 h30 => ?_)
      refine zv_iconst (z := 2) dX10_asked_145 ?_
      refine zv_rload dX10_asked_146 0 rfl ?_
      refine zv_iload_n dX10_asked_148 2 rfl ?_
      refine zv_iload_n dX10_asked_149 3 rfl ?_
      refine (zv_callVr [iv p1, iv p2] (c_X8_wordsOf κ.2.1 hw (v5.toNat) p1 p2 M6 h7) zmd_X8_wordsOf zwI_X8_wordsOf zwS_X8_wordsOf zwM_RX10_259 zcd_8 h7 rfl (by decide) rfl (Nat.le_of_ble_eq_true rfl) dX10_asked_150 (fun M32 v31 _ => ?_))
      refine zv_gd (fun h33 => ?_)
      refine zv_iconst (z := 0) dX10_asked_153 ?_
      refine zv_pc (zv_callVi [iv 2, rn w (v31.toNat), iv 0] (c_X3_first κ.2.1 hw q29 2 (v31.toNat) 0 M32 h30 h33.1 h33.2) zmd_X3_first zwI_X3_first zwS_X3_first zwM_RX10_263 zcd_3 h30 rfl (by decide) rfl (Nat.le_of_ble_eq_true rfl) dX10_asked_154 (fun mh35 v34 h35 => ?_))
      obtain rfl := zpuE h35
      refine zv_goto (tgt := 161) dX10_asked_157 (by decide) ?_
      exact zv_ret (fun h => h) (zv_iret dX10_asked_161)
    refine zv_ite (fun h36 => ?_) (fun h37 => ?_)
    · refine zv_tin (tgt := 162) dX10_asked_24 h36 (by decide) (by decide) (by decide) rfl (by decide) ?_
      refine zv_rload_n dX10_asked_162 1 rfl ?_
      refine zg_RX10_74 dX10_asked_163 hp0 (fun q38 h39 => ?_)
      refine zv_iconst (z := 3) dX10_asked_166 ?_
      refine zv_rload dX10_asked_167 0 rfl ?_
      refine zv_iload_n dX10_asked_169 2 rfl ?_
      refine zv_iload_n dX10_asked_170 3 rfl ?_
      refine (zv_callVr [iv p1, iv p2] (c_X8_wordsOf κ.2.1 hw (v5.toNat) p1 p2 M6 h7) zmd_X8_wordsOf zwI_X8_wordsOf zwS_X8_wordsOf zwM_RX10_259 zcd_8 h7 rfl (by decide) rfl (Nat.le_of_ble_eq_true rfl) dX10_asked_171 (fun M41 v40 _ => ?_))
      refine zv_gd (fun h42 => ?_)
      refine zv_iconst (z := 0) dX10_asked_174 ?_
      refine zv_pc (zv_callVi [iv 3, rn w (v40.toNat), iv 0] (c_X3_first κ.2.1 hw q38 3 (v40.toNat) 0 M41 h39 h42.1 h42.2) zmd_X3_first zwI_X3_first zwS_X3_first zwM_RX10_263 zcd_3 h39 rfl (by decide) rfl (Nat.le_of_ble_eq_true rfl) dX10_asked_175 (fun mh44 v43 h44 => ?_))
      obtain rfl := zpuE h44
      exact zv_ret (fun h => h) (zv_iret dX10_asked_178)
    refine zv_ite (fun h45 => ?_) (fun h46 => ?_)
    · refine zv_tin (tgt := 179) dX10_asked_24 h45 (by decide) (by decide) (by decide) rfl (by decide) ?_
      refine zv_rload_n dX10_asked_179 1 rfl ?_
      refine zg_RX10_74 dX10_asked_180 hp0 (fun q47 h48 => ?_)
      refine zv_iconst (z := 4) dX10_asked_183 ?_
      refine zv_rload dX10_asked_184 0 rfl ?_
      refine zv_iload_n dX10_asked_186 2 rfl ?_
      refine zv_iload_n dX10_asked_187 3 rfl ?_
      refine (zv_callVr [iv p1, iv p2] (c_X8_wordsOf κ.2.1 hw (v5.toNat) p1 p2 M6 h7) zmd_X8_wordsOf zwI_X8_wordsOf zwS_X8_wordsOf zwM_RX10_259 zcd_8 h7 rfl (by decide) rfl (Nat.le_of_ble_eq_true rfl) dX10_asked_188 (fun M50 v49 _ => ?_))
      refine zv_gd (fun h51 => ?_)
      refine zv_bipush (z := 100) dX10_asked_191 (by decide) ?_
      refine zv_pc (zv_callVi [iv 4, rn w (v49.toNat), iv 100] (c_X3_first κ.2.1 hw q47 4 (v49.toNat) 100 M50 h48 h51.1 h51.2) zmd_X3_first zwI_X3_first zwS_X3_first zwM_RX10_263 zcd_3 h48 rfl (by decide) rfl (Nat.le_of_ble_eq_true rfl) dX10_asked_193 (fun mh53 v52 h53 => ?_))
      obtain rfl := zpuE h53
      exact zv_ret (fun h => h) (zv_iret dX10_asked_196)
    refine zv_ite (fun h54 => ?_) (fun h55 => ?_)
    · refine zv_tin (tgt := 197) dX10_asked_24 h54 (by decide) (by decide) (by decide) rfl (by decide) ?_
      refine zv_rload dX10_asked_197 0 rfl ?_
      refine zv_iload_n dX10_asked_199 2 rfl ?_
      refine zv_pc (zv_callVi [iv p1] (c_X8_kindOf κ.2.1 hw (v5.toNat) p1 M6 h7) zmd_X8_kindOf zwI_X8_kindOf zwS_X8_kindOf zwM_RX10_267 zcd_8 h7 rfl (by decide) rfl (Nat.le_of_ble_eq_true rfl) dX10_asked_200 (fun mh57 v56 h57 => ?_))
      obtain rfl := zpuE h57
      exact zv_ret (fun h => h) (zv_iret dX10_asked_203)
    refine zv_tout (tgt := 204) dX10_asked_24 h8 (by omega) (by decide) ?_
    refine zv_iconst (z := (-1)) dX10_asked_204 ?_
    exact zv_ret (fun h => h) (zv_iret dX10_asked_205)
  refine zv_iconst (z := (-1)) dX10_asked_14 ?_
  exact zv_ret (fun h => h) (zv_iret dX10_asked_15)
def f_X10_refuse (k : zK)  (p0 : Nat) (p1 : Int) (M0 : zM) : Option (zM × Int) :=
  zgd (0 ≤ p1 ∧ p1 < 3) (zgd (0 ≤ p1 ∧ p1 < 3) (zlt (zst M0 (zfr k p0 9) p1.toNat ((M0 (zfr k p0 9) p1.toNat) + 1)) (fun M1 => some (M1, (-1)))))
theorem c_X10_refuse (l : Launch) {w : zW} (hw : zWk w)  (p0 : Nat) (p1 : Int) (M0 : zM) (hp0 : ztag w.1 p0 = 11) : zCn l yX10_refuse cX10_refuse 2 (some .int) (0) 1 w [rn w p0, iv p1] M0 (f_X10_refuse w.1 p0 p1 M0) := by
  have hT := hw.1
  refine zCn_of (own := RX10) (by decide) rfl hw (Nat.le_of_ble_eq_true rfl) [(0, rn w p0), (1, iv p1)] rfl ?_
  intro κ hl
  subst hl
  unfold f_X10_refuse
  refine zv_rload_n dX10_refuse_0 0 rfl ?_
  refine zg_RX10_67 dX10_refuse_1 hp0 ?_
  refine zv_iload_n dX10_refuse_4 1 rfl ?_
  refine zv_dup2 dX10_refuse_5 rfl rfl ?_
  refine zv_iald dX10_refuse_6 (zta_10_9 hT hp0) (ztl_10_9 hT hp0) (by decide) ?_
  refine zv_iconst (z := 1) dX10_refuse_7 ?_
  refine zv_iadd dX10_refuse_8 ?_
  refine zv_iast dX10_refuse_9 (zta_10_9 hT hp0) (ztl_10_9 hT hp0) (by decide) (fun M1 => ?_)
  refine zv_iconst (z := (-1)) dX10_refuse_10 ?_
  exact zv_ret (fun h => h) (zv_iret dX10_refuse_11)
def f_X9_forget (k : zK)  (p0 : Nat) (M0 : zM) : Option zM :=
  zlt (zst M0 p0 6 (-1)) (fun M1 => some M1)
theorem c_X9_forget (l : Launch) {w : zW} (hw : zWk w)  (p0 : Nat) (M0 : zM) (hp0 : ztag w.1 p0 = 10) : zCn l yX9_forget cX9_forget 1 none (0) 0 w [rn w p0] M0 ((f_X9_forget w.1 p0 M0).map fun m => (m, (0 : Int))) := by
  have hT := hw.1
  refine zCn_ofV (own := RX9) (by decide) rfl hw (Nat.le_of_ble_eq_true rfl) [(0, rn w p0)] rfl ?_
  intro κ hl
  subst hl
  unfold f_X9_forget
  refine zv_rload_n dX9_forget_0 0 rfl ?_
  refine zv_iconst (z := (-1)) dX9_forget_1 ?_
  refine zp_RX9_35 dX9_forget_2 hp0 (fun M1 => ?_)
  exact zv_ret (fun h => h) (zv_vret (v := 0) dX9_forget_5)
def f_X10_bucket (k : zK)  (p0 : Nat) (p1 : Int) (p2 : Int) (M0 : zM) : Option (zM × Int) :=
  zb1 (f_X10_isCell k p1 M0) (fun v1 => zsp1 (zbr v1 0 (v1 = 0) (some (.inl M0)) (zbr p2 1 (p2 < 1) (some (.inl M0)) (zbr p2 8 (p2 ≤ 8) (zgd (0 ≤ p1 ∧ p1 < 256) (zbr ((M0 (zfr k (zfr k p0 1) 2) p1.toNat) + p2) 8 ((M0 (zfr k (zfr k p0 1) 2) p1.toNat) + p2 ≤ 8) (zgd (0 ≤ p1 ∧ p1 < 256) (zgd (0 ≤ p1 ∧ p1 < 256) (zlt (zst M0 (zfr k (zfr k p0 1) 2) p1.toNat ((M0 (zfr k (zfr k p0 1) 2) p1.toNat) + p2)) (fun M3 => zb1 (f_X9_forget k (zfr k p0 7) M3) (fun M4 => zgd (0 ≤ p1 ∧ p1 < 256) (some (.inr (M4, M4 (zfr k (zfr k p0 1) 2) p1.toNat)))))))) (zbd (f_X10_refuse k p0 1 M0) (fun M6 v5 => some (.inr (M6, v5)))))) (some (.inl M0))))) (fun r => some r) (fun M7 => zbd (f_X10_refuse k p0 0 M7) (fun M9 v8 => some (M9, v8))))
theorem c_X10_bucket (l : Launch) {w : zW} (hw : zWk w)  (p0 : Nat) (p1 : Int) (p2 : Int) (M0 : zM) (hp0 : ztag w.1 p0 = 11) : zCn l yX10_bucket cX10_bucket 3 (some .int) (1) 1 w [rn w p0, iv p1, iv p2] M0 (f_X10_bucket w.1 p0 p1 p2 M0) := by
  have hT := hw.1
  refine zCn_of (own := RX10) (by decide) rfl hw (Nat.le_of_ble_eq_true rfl) [(0, rn w p0), (1, iv p1), (2, iv p2)] rfl ?_
  intro κ hl
  subst hl
  unfold f_X10_bucket
  refine zv_iload_n dX10_bucket_0 1 rfl ?_
  refine zv_pc (zv_callSi [iv p1] (c_X10_isCell κ.2.1 hw p1 M0 ) zmd_X10_isCell zwT_X10_isCell zwM_RX10_92 rfl (by decide) rfl (Nat.le_of_ble_eq_true rfl) dX10_bucket_1 (fun mh2 v1 h2 => ?_))
  obtain rfl := zpuE h2
  refine zv_joinS1 (fun r => r) 18 (fun M7 => [(0, rn w p0)]) (fun M7 => []) (fun M7 => M7) ?_ (fun M7 => ?_)
  · refine zv_if_eq (tgt := 18) dX10_bucket_4 (by decide) ?_ ?_
    · exact zv_sub (L' := [(0, rn w p0)]) [0] rfl (zv_exit (fun h => h))
    refine zv_iload_n dX10_bucket_7 2 rfl ?_
    refine zv_iconst (z := 1) dX10_bucket_8 ?_
    refine zv_icmp_lt (tgt := 18) dX10_bucket_9 (by decide) ?_ ?_
    · exact zv_sub (L' := [(0, rn w p0)]) [0] rfl (zv_exit (fun h => h))
    refine zv_iload_n dX10_bucket_12 2 rfl ?_
    refine zv_bipush (z := 8) dX10_bucket_13 (by decide) ?_
    refine zv_icmp_le (tgt := 24) dX10_bucket_15 (by decide) ?_ ?_
    · refine zv_rload_n dX10_bucket_24 0 rfl ?_
      refine zg_RX10_19 dX10_bucket_25 hp0 ?_
      refine zg_RX10_141 dX10_bucket_28 (zta_10_1 hT hp0) ?_
      refine zv_iload_n dX10_bucket_31 1 rfl ?_
      refine zv_iald dX10_bucket_32 (zta_7_2 hT (zta_10_1 hT hp0)) (ztl_7_2 hT (zta_10_1 hT hp0)) (by decide) ?_
      refine zv_iload_n dX10_bucket_33 2 rfl ?_
      refine zv_iadd dX10_bucket_34 ?_
      refine zv_bipush (z := 8) dX10_bucket_35 (by decide) ?_
      refine zv_icmp_le (tgt := 46) dX10_bucket_37 (by decide) ?_ ?_
      · refine zv_rload_n dX10_bucket_46 0 rfl ?_
        refine zg_RX10_19 dX10_bucket_47 hp0 ?_
        refine zg_RX10_141 dX10_bucket_50 (zta_10_1 hT hp0) ?_
        refine zv_iload_n dX10_bucket_53 1 rfl ?_
        refine zv_dup2 dX10_bucket_54 rfl rfl ?_
        refine zv_iald dX10_bucket_55 (zta_7_2 hT (zta_10_1 hT hp0)) (ztl_7_2 hT (zta_10_1 hT hp0)) (by decide) ?_
        refine zv_iload_n dX10_bucket_56 2 rfl ?_
        refine zv_iadd dX10_bucket_57 ?_
        refine zv_iast dX10_bucket_58 (zta_7_2 hT (zta_10_1 hT hp0)) (ztl_7_2 hT (zta_10_1 hT hp0)) (by decide) (fun M3 => ?_)
        refine zv_rload_n dX10_bucket_59 0 rfl ?_
        refine zg_RX10_56 dX10_bucket_60 hp0 ?_
        refine zv_vc (zv_callVv [] (c_X9_forget κ.2.1 hw (zfr w.1 p0 7) M3 (zta_10_7 hT hp0)) zmd_X9_forget zwI_X9_forget zwS_X9_forget zwM_RX10_138 zcd_9 (zta_10_7 hT hp0) rfl (by decide) rfl (Nat.le_of_ble_eq_true rfl) dX10_bucket_63 (fun M4 _ _ => ?_))
        refine zv_rload_n dX10_bucket_66 0 rfl ?_
        refine zg_RX10_19 dX10_bucket_67 hp0 ?_
        refine zg_RX10_141 dX10_bucket_70 (zta_10_1 hT hp0) ?_
        refine zv_iload_n dX10_bucket_73 1 rfl ?_
        refine zv_iald dX10_bucket_74 (zta_7_2 hT (zta_10_1 hT hp0)) (ztl_7_2 hT (zta_10_1 hT hp0)) (by decide) ?_
        exact zv_ret (fun h => h) (zv_iret dX10_bucket_75)
      refine zv_rload_n dX10_bucket_40 0 rfl ?_
      refine zv_iconst (z := 1) dX10_bucket_41 ?_
      refine (zv_callVi [iv 1] (c_X10_refuse κ.2.1 hw p0 1 M0 hp0) zmd_X10_refuse zwI_X10_refuse zwS_X10_refuse zwM_RX10_99 zcd_10 hp0 rfl (by decide) rfl (Nat.le_of_ble_eq_true rfl) dX10_bucket_42 (fun M6 v5 _ => ?_))
      exact zv_ret (fun h => h) (zv_iret dX10_bucket_45)
    exact zv_sub (L' := [(0, rn w p0)]) [0] rfl (zv_exit (fun h => h))
  refine zv_rload_n dX10_bucket_18 0 rfl ?_
  refine zv_iconst (z := 0) dX10_bucket_19 ?_
  refine (zv_callVi [iv 0] (c_X10_refuse κ.2.1 hw p0 0 M7 hp0) zmd_X10_refuse zwI_X10_refuse zwS_X10_refuse zwM_RX10_99 zcd_10 hp0 rfl (by decide) rfl (Nat.le_of_ble_eq_true rfl) dX10_bucket_20 (fun M9 v8 _ => ?_))
  exact zv_ret (fun h => h) (zv_iret dX10_bucket_23)
def fb_X10_sumLives_5 (k : zK)  (l0 : Nat) (l2 : Int) (y3 : Int) (y5 : Int) (M0 : zM) : Option ((Int × Int × zM) ⊕ (Int × zM)) :=
  zbr y5 l2 (l2 < y5) (some (.inr (y3, M0))) (zbd (f_X10_spanKnown k l0 y5 M0) (fun M2 v1 => zgd (0 ≤ v1 ∧ v1 < 100) (zgd (zr (M2 (zfr k (zfr k l0 5) 0) v1.toNat)) (zlt (y3 + (M2 (zfr k (zfr k l0 5) 0) v1.toNat)) (fun x3 => zlt (y5 + 1) (fun x4 => some (.inl (x3, x4, M2))))))))
def f_X10_sumLives (k : zK)  (p0 : Nat) (p1 : Int) (p2 : Int) (M0 : zM) : Option (zM × Int) :=
  zb2 (zw3 (fb_X10_sumLives_5 k p0 p2) zfu 0 p1 M0) (fun x5 M6 => some (M6, x5))
theorem vl_X10_sumLives_5 {κ : zC} {w : zW} (hw : zWk w)  (l0 : Nat) (l2 : Int) (g0 : ztag w.1 l0 = 11)  (E : (Int × zM) → Prop) (hX : ∀ (u3 : Int) (M1 : zM), E (u3, M1) → zB cX10_sumLives RX10 6 (some .long) κ w (0, 0, 5) 35 [(3, jv u3)] [] M1)  (y3 : Int) (y5 : Int) (M0 : zM) :
    zV cX10_sumLives RX10 6 (some .long) κ w (0, 0, 5) 5 [(3, jv y3), (5, iv y5), (0, rn w l0), (2, iv l2)] [] M0 (zw3 (fb_X10_sumLives_5 w.1 l0 l2) zfu y3 y5 M0) E := by
  have hT := hw.1
  refine zv_loop3 (fun y3 y5 M0 => [(3, jv y3), (5, iv y5), (0, rn w l0), (2, iv l2)]) (fun y3 y5 M0 => M0) (fun y3 y5 M0 => ?_) y3 y5 M0
  unfold fb_X10_sumLives_5
  refine zv_iload dX10_sumLives_5 1 rfl ?_
  refine zv_iload_n dX10_sumLives_7 3 rfl ?_
  refine zv_icmp_gt (tgt := 35) dX10_sumLives_8 (by decide) ?_ ?_
  · exact zv_sub (L' := [(3, jv y3)]) [0] rfl (zv_exit (fun h => hX _ _ h))
  refine zv_lload_n dX10_sumLives_11 0 rfl ?_
  refine zv_rload_n dX10_sumLives_12 2 rfl ?_
  refine zg_RX10_42 dX10_sumLives_13 g0 ?_
  refine zg_RX10_330 dX10_sumLives_16 (zta_10_5 hT g0) ?_
  refine zv_rload_n dX10_sumLives_19 2 rfl ?_
  refine zv_iload dX10_sumLives_20 1 rfl ?_
  refine (zv_callVi [iv y5] (c_X10_spanKnown κ.2.1 hw l0 y5 M0 g0) zmd_X10_spanKnown zwI_X10_spanKnown zwS_X10_spanKnown zwM_RX10_310 zcd_10 g0 rfl (by decide) rfl (Nat.le_of_ble_eq_true rfl) dX10_sumLives_22 (fun M2 v1 _ => ?_))
  refine zv_iald dX10_sumLives_25 (zta_4_0 hT (zta_10_5 hT g0)) (ztl_4_0 hT (zta_10_5 hT g0)) (by decide) ?_
  refine zv_i2l dX10_sumLives_26 ?_
  refine zv_ladd dX10_sumLives_27 ?_
  refine zv_lstore_n (i := 3) (by rfl) dX10_sumLives_28 (fun x3 => [(3, jv x3), (5, iv y5), (0, rn w l0), (2, iv l2)]) (by decide) (fun _ => rfl) (fun x3 => ?_)
  refine zv_iinc dX10_sumLives_29 1 rfl (fun x4 => [(5, iv x4), (3, jv x3), (0, rn w l0), (2, iv l2)]) (by decide) (fun _ => rfl) (fun x4 => ?_)
  refine zv_goto (tgt := 5) dX10_sumLives_32 (by decide) ?_
  exact zv_sub (L' := [(3, jv x3), (5, iv x4), (0, rn w l0), (2, iv l2)]) [1, 0, 2, 3] rfl (zv_exit (fun h => h))
theorem c_X10_sumLives (l : Launch) {w : zW} (hw : zWk w)  (p0 : Nat) (p1 : Int) (p2 : Int) (M0 : zM) (hp0 : ztag w.1 p0 = 11) : zCn l yX10_sumLives cX10_sumLives 6 (some .long) (5) 2 w [rn w p0, iv p1, iv p2] M0 (f_X10_sumLives w.1 p0 p1 p2 M0) := by
  have hT := hw.1
  refine zCn_of (own := RX10) (by decide) rfl hw (Nat.le_of_ble_eq_true rfl) [(0, rn w p0), (1, iv p1), (2, iv p2)] rfl ?_
  intro κ hl
  subst hl
  unfold f_X10_sumLives
  refine zv_lconst (z := 0) dX10_sumLives_0 (by decide) ?_
  refine zv_lstore_np (L' := [(3, jv 0), (0, rn w p0), (1, iv p1), (2, iv p2)]) (by rfl) dX10_sumLives_1 (by decide) rfl ?_
  refine zv_iload_n dX10_sumLives_2 2 rfl ?_
  refine zv_istore_p (L' := [(5, iv p1), (3, jv 0), (0, rn w p0), (1, iv p1), (2, iv p2)]) dX10_sumLives_3 (by decide) rfl ?_
  refine zv_join2 35 (fun x5 M6 => [(3, jv x5)]) (fun x5 M6 => []) (fun x5 M6 => M6) (zv_sub (L' := [(3, jv 0), (5, iv p1), (0, rn w p0), (2, iv p2)]) [1, 0, 2, 4] rfl (vl_X10_sumLives_5 hw p0 p2 hp0 _ (fun _ _ h => h) 0 p1 M0)) (fun x5 M6 => ?_)
  refine zv_lload_n dX10_sumLives_35 0 rfl ?_
  exact zv_ret (fun h => h) (zv_lret dX10_sumLives_36)
def fb_X10_sumLivesIn_6 (k : zK)  (l0 : Nat) (l1 : Int) (l3 : Int) (y4 : Int) (y6 : Int) (M0 : zM) : Option ((Int × Int × zM) ⊕ (Int × zM)) :=
  zbr y6 l3 (l3 < y6) (some (.inr (y4, M0))) (zbd (f_X10_spanKnown k l0 y6 M0) (fun M2 v1 => zb1 (f_X4_of k (zfr k l0 5) v1 l1 M2) (fun v3 => zgd (zr v3) (zlt (y4 + v3) (fun x5 => zlt (y6 + 1) (fun x6 => some (.inl (x5, x6, M2))))))))
def f_X10_sumLivesIn (k : zK)  (p0 : Nat) (p1 : Int) (p2 : Int) (p3 : Int) (M0 : zM) : Option (zM × Int) :=
  zb2 (zw3 (fb_X10_sumLivesIn_6 k p0 p1 p3) zfu 0 p2 M0) (fun x7 M8 => some (M8, x7))
theorem vl_X10_sumLivesIn_6 {κ : zC} {w : zW} (hw : zWk w)  (l0 : Nat) (l1 : Int) (l3 : Int) (g0 : ztag w.1 l0 = 11)  (E : (Int × zM) → Prop) (hX : ∀ (u4 : Int) (M1 : zM), E (u4, M1) → zB cX10_sumLivesIn RX10 7 (some .long) κ w (0, 0, 5) 38 [(4, jv u4)] [] M1)  (y4 : Int) (y6 : Int) (M0 : zM) :
    zV cX10_sumLivesIn RX10 7 (some .long) κ w (0, 0, 5) 6 [(4, jv y4), (6, iv y6), (0, rn w l0), (1, iv l1), (3, iv l3)] [] M0 (zw3 (fb_X10_sumLivesIn_6 w.1 l0 l1 l3) zfu y4 y6 M0) E := by
  have hT := hw.1
  refine zv_loop3 (fun y4 y6 M0 => [(4, jv y4), (6, iv y6), (0, rn w l0), (1, iv l1), (3, iv l3)]) (fun y4 y6 M0 => M0) (fun y4 y6 M0 => ?_) y4 y6 M0
  unfold fb_X10_sumLivesIn_6
  refine zv_iload dX10_sumLivesIn_6 1 rfl ?_
  refine zv_iload_n dX10_sumLivesIn_8 4 rfl ?_
  refine zv_icmp_gt (tgt := 38) dX10_sumLivesIn_9 (by decide) ?_ ?_
  · exact zv_sub (L' := [(4, jv y4)]) [0] rfl (zv_exit (fun h => hX _ _ h))
  refine zv_lload dX10_sumLivesIn_12 0 rfl ?_
  refine zv_rload_n dX10_sumLivesIn_14 2 rfl ?_
  refine zg_RX10_42 dX10_sumLivesIn_15 g0 ?_
  refine zv_rload_n dX10_sumLivesIn_18 2 rfl ?_
  refine zv_iload dX10_sumLivesIn_19 1 rfl ?_
  refine (zv_callVi [iv y6] (c_X10_spanKnown κ.2.1 hw l0 y6 M0 g0) zmd_X10_spanKnown zwI_X10_spanKnown zwS_X10_spanKnown zwM_RX10_310 zcd_10 g0 rfl (by decide) rfl (Nat.le_of_ble_eq_true rfl) dX10_sumLivesIn_21 (fun M2 v1 _ => ?_))
  refine zv_iload_n dX10_sumLivesIn_24 3 rfl ?_
  refine zv_pc (zv_callVi [iv v1, iv l1] (c_X4_of κ.2.1 hw (zfr w.1 l0 5) v1 l1 M2 (zta_10_5 hT g0)) zmd_X4_of zwI_X4_of zwS_X4_of zwM_RX10_336 zcd_4 (zta_10_5 hT g0) rfl (by decide) rfl (Nat.le_of_ble_eq_true rfl) dX10_sumLivesIn_25 (fun mh4 v3 h4 => ?_))
  obtain rfl := zpuE h4
  refine zv_i2l dX10_sumLivesIn_28 ?_
  refine zv_ladd dX10_sumLivesIn_29 ?_
  refine zv_lstore dX10_sumLivesIn_30 (fun x5 => [(4, jv x5), (6, iv y6), (0, rn w l0), (1, iv l1), (3, iv l3)]) (by decide) (fun _ => rfl) (fun x5 => ?_)
  refine zv_iinc dX10_sumLivesIn_32 1 rfl (fun x6 => [(6, iv x6), (4, jv x5), (0, rn w l0), (1, iv l1), (3, iv l3)]) (by decide) (fun _ => rfl) (fun x6 => ?_)
  refine zv_goto (tgt := 6) dX10_sumLivesIn_35 (by decide) ?_
  exact zv_sub (L' := [(4, jv x5), (6, iv x6), (0, rn w l0), (1, iv l1), (3, iv l3)]) [1, 0, 2, 3, 4] rfl (zv_exit (fun h => h))
theorem c_X10_sumLivesIn (l : Launch) {w : zW} (hw : zWk w)  (p0 : Nat) (p1 : Int) (p2 : Int) (p3 : Int) (M0 : zM) (hp0 : ztag w.1 p0 = 11) : zCn l yX10_sumLivesIn cX10_sumLivesIn 7 (some .long) (5) 2 w [rn w p0, iv p1, iv p2, iv p3] M0 (f_X10_sumLivesIn w.1 p0 p1 p2 p3 M0) := by
  have hT := hw.1
  refine zCn_of (own := RX10) (by decide) rfl hw (Nat.le_of_ble_eq_true rfl) [(0, rn w p0), (1, iv p1), (2, iv p2), (3, iv p3)] rfl ?_
  intro κ hl
  subst hl
  unfold f_X10_sumLivesIn
  refine zv_lconst (z := 0) dX10_sumLivesIn_0 (by decide) ?_
  refine zv_lstore_p (L' := [(4, jv 0), (0, rn w p0), (1, iv p1), (2, iv p2), (3, iv p3)]) dX10_sumLivesIn_1 (by decide) rfl ?_
  refine zv_iload_n dX10_sumLivesIn_3 3 rfl ?_
  refine zv_istore_p (L' := [(6, iv p2), (4, jv 0), (0, rn w p0), (1, iv p1), (2, iv p2), (3, iv p3)]) dX10_sumLivesIn_4 (by decide) rfl ?_
  refine zv_join2 38 (fun x7 M8 => [(4, jv x7)]) (fun x7 M8 => []) (fun x7 M8 => M8) (zv_sub (L' := [(4, jv 0), (6, iv p2), (0, rn w p0), (1, iv p1), (3, iv p3)]) [1, 0, 2, 3, 5] rfl (vl_X10_sumLivesIn_6 hw p0 p1 p3 hp0 _ (fun _ _ h => h) 0 p2 M0)) (fun x7 M8 => ?_)
  refine zv_lload dX10_sumLivesIn_38 0 rfl ?_
  exact zv_ret (fun h => h) (zv_lret dX10_sumLivesIn_40)
def f_X5_part (k : zK)  (p0 : Nat) (p1 : Int) (M0 : zM) : Option Int :=
  zbr p1 0 (¬ p1 = 0) (some (M0 p0 1)) (some (M0 p0 0))
theorem c_X5_part (l : Launch) {w : zW} (hw : zWk w)  (p0 : Nat) (p1 : Int) (M0 : zM) (hp0 : ztag w.1 p0 = 6) : zCn l yX5_part cX5_part 2 (some .long) (0) 2 w [rn w p0, iv p1] M0 ((f_X5_part w.1 p0 p1 M0).map fun v => (M0, v)) := by
  have hT := hw.1
  refine zCn_ofP (own := RX5) (by decide) rfl hw (Nat.le_of_ble_eq_true rfl) [(0, rn w p0), (1, iv p1)] rfl ?_
  intro κ hl
  subst hl
  unfold f_X5_part
  refine zv_iload_n dX5_part_0 1 rfl ?_
  refine zv_if_ne (tgt := 11) dX5_part_1 (by decide) ?_ ?_
  · refine zv_rload_n dX5_part_11 0 rfl ?_
    refine zg_RX5_13 dX5_part_12 hp0 ?_
    exact zv_ret (fun h => h) (zv_lret dX5_part_15)
  refine zv_rload_n dX5_part_4 0 rfl ?_
  refine zg_RX5_7 dX5_part_5 hp0 ?_
  refine zv_goto (tgt := 15) dX5_part_8 (by decide) ?_
  exact zv_ret (fun h => h) (zv_lret dX5_part_15)
def fb_X5_put_9 (k : zK)  (l0 : Nat) (l1 : Int) (l3 : Int) (M0 : zM) (y5 : Int) (y7 : Int) (y9 : Int) : Option ((Int × Int × Int) ⊕ (Int)) :=
  zbr y9 200 (200 ≤ y9) (some (.inr y5)) (zbl y7 0 (y7 = 0) (some (.inr y5)) (zgd ((0 ≤ y5 ∧ y5 ≤ 9223372036854775807) ∧ 0 < y7 ∧ y7 ≤ 9223372036854775807) (zlt (y5 % y7) (fun x1 => zlt (y9 + 1) (fun x2 => some (.inl (y7, x1, x2)))))))
def f_X5_put (k : zK)  (p0 : Nat) (p1 : Int) (p3 : Int) (M0 : zM) : Option zM :=
  zb1 (zw3 (fb_X5_put_9 k p0 p1 p3 M0) zfu p1 p3 0) (fun x3 => zb1 (zbl x3 0 (¬ x3 = 0) (some (x3)) (some (1))) (fun x4 => zgd ((0 ≤ p1 ∧ p1 ≤ 9223372036854775807) ∧ 0 < x4 ∧ x4 ≤ 9223372036854775807) (zlt (zst M0 p0 0 (p1 / x4)) (fun M5 => zbl p3 0 (¬ p3 = 0) (zgd ((0 ≤ p3 ∧ p3 ≤ 9223372036854775807) ∧ 0 < x4 ∧ x4 ≤ 9223372036854775807) (zlt (zst M5 p0 1 (p3 / x4)) (fun M6 => some M6))) (zlt (zst M5 p0 1 1) (fun M7 => some M7))))))
theorem vl_X5_put_9 {κ : zC} {w : zW} (hw : zWk w)  (l0 : Nat) (l1 : Int) (l3 : Int) (g0 : ztag w.1 l0 = 6) (M0 : zM) (E : (Int) → Prop) (hX : ∀ (u5 : Int), E u5 → zB cX5_put RX5 12 none κ w (0, 0, 0) 45 [(0, rn w l0), (1, jv l1), (3, jv l3), (5, jv u5)] [] M0)  (y5 : Int) (y7 : Int) (y9 : Int) :
    zV cX5_put RX5 12 none κ w (0, 0, 0) 9 [(5, jv y5), (7, jv y7), (9, iv y9), (0, rn w l0), (1, jv l1), (3, jv l3)] [] M0 (zw3 (fb_X5_put_9 w.1 l0 l1 l3 M0) zfu y5 y7 y9) E := by
  have hT := hw.1
  refine zv_loop3 (fun y5 y7 y9 => [(5, jv y5), (7, jv y7), (9, iv y9), (0, rn w l0), (1, jv l1), (3, jv l3)]) (fun y5 y7 y9 => M0) (fun y5 y7 y9 => ?_) y5 y7 y9
  unfold fb_X5_put_9
  refine zv_iload dX5_put_9 2 rfl ?_
  refine zv_sipush (z := 200) dX5_put_11 (by decide) ?_
  refine zv_icmp_ge (tgt := 45) dX5_put_14 (by decide) ?_ ?_
  · exact zv_sub (L' := [(0, rn w l0), (1, jv l1), (3, jv l3), (5, jv y5)]) [3, 4, 5, 0] rfl (zv_exit (fun h => hX _ h))
  refine zv_lload dX5_put_17 1 rfl ?_
  refine zv_lconst (z := 0) dX5_put_19 (by decide) ?_
  refine zv_lcmp_eq (tgt := 45) dX5_put_20 dX5_put_21 (by decide) ?_ ?_
  · exact zv_sub (L' := [(0, rn w l0), (1, jv l1), (3, jv l3), (5, jv y5)]) [3, 4, 5, 0] rfl (zv_exit (fun h => hX _ h))
  refine zv_lload dX5_put_24 0 rfl ?_
  refine zv_lload dX5_put_26 1 rfl ?_
  refine zv_lrem dX5_put_28 ?_
  refine zv_lstore dX5_put_29 (fun x1 => [(10, jv x1), (5, jv y5), (7, jv y7), (9, iv y9), (0, rn w l0), (1, jv l1), (3, jv l3)]) (by decide) (fun _ => rfl) (fun x1 => ?_)
  refine zv_lload dX5_put_31 2 rfl ?_
  refine zv_lstore_p (L' := [(5, jv y7), (10, jv x1), (7, jv y7), (9, iv y9), (0, rn w l0), (1, jv l1), (3, jv l3)]) dX5_put_33 (by decide) rfl ?_
  refine zv_lload dX5_put_35 1 rfl ?_
  refine zv_lstore_p (L' := [(7, jv x1), (5, jv y7), (10, jv x1), (9, iv y9), (0, rn w l0), (1, jv l1), (3, jv l3)]) dX5_put_37 (by decide) rfl ?_
  refine zv_iinc dX5_put_39 3 rfl (fun x2 => [(9, iv x2), (7, jv x1), (5, jv y7), (10, jv x1), (0, rn w l0), (1, jv l1), (3, jv l3)]) (by decide) (fun _ => rfl) (fun x2 => ?_)
  refine zv_goto (tgt := 9) dX5_put_42 (by decide) ?_
  exact zv_sub (L' := [(5, jv y7), (7, jv x1), (9, iv x2), (0, rn w l0), (1, jv l1), (3, jv l3)]) [2, 1, 0, 4, 5, 6] rfl (zv_exit (fun h => h))
theorem c_X5_put (l : Launch) {w : zW} (hw : zWk w)  (p0 : Nat) (p1 : Int) (p3 : Int) (M0 : zM) (hp0 : ztag w.1 p0 = 6) : zCn l yX5_put cX5_put 12 none (0) 0 w [rn w p0, jv p1, jv p3] M0 ((f_X5_put w.1 p0 p1 p3 M0).map fun m => (m, (0 : Int))) := by
  have hT := hw.1
  refine zCn_ofV (own := RX5) (by decide) rfl hw (Nat.le_of_ble_eq_true rfl) [(0, rn w p0), (1, jv p1), (3, jv p3)] rfl ?_
  intro κ hl
  subst hl
  unfold f_X5_put
  refine zv_lload_n dX5_put_0 1 rfl ?_
  refine zv_lstore_p (L' := [(5, jv p1), (0, rn w p0), (1, jv p1), (3, jv p3)]) dX5_put_1 (by decide) rfl ?_
  refine zv_lload_n dX5_put_3 3 rfl ?_
  refine zv_lstore_p (L' := [(7, jv p3), (5, jv p1), (0, rn w p0), (1, jv p1), (3, jv p3)]) dX5_put_4 (by decide) rfl ?_
  refine zv_iconst (z := 0) dX5_put_6 ?_
  refine zv_istore_p (L' := [(9, iv 0), (7, jv p3), (5, jv p1), (0, rn w p0), (1, jv p1), (3, jv p3)]) dX5_put_7 (by decide) rfl ?_
  refine zv_join1 45 (fun x3 => [(0, rn w p0), (1, jv p1), (3, jv p3), (5, jv x3)]) (fun x3 => []) (fun x3 => M0) (zv_sub (L' := [(5, jv p1), (7, jv p3), (9, iv 0), (0, rn w p0), (1, jv p1), (3, jv p3)]) [2, 1, 0, 3, 4, 5] rfl (vl_X5_put_9 hw p0 p1 p3 hp0 M0 _ (fun _ h => h) p1 p3 0)) (fun x3 => ?_)
  refine zv_lload dX5_put_45 3 rfl ?_
  refine zv_lconst (z := 0) dX5_put_47 (by decide) ?_
  refine zv_join1 58 (fun x4 => [(0, rn w p0), (1, jv p1), (3, jv p3)]) (fun x4 => [jv x4]) (fun x4 => M0) ?_ (fun x4 => ?_)
  · refine zv_lcmp_ne (tgt := 56) dX5_put_48 dX5_put_49 (by decide) ?_ ?_
    · refine zv_lload dX5_put_56 3 rfl ?_
      exact zv_sub (L' := [(0, rn w p0), (1, jv p1), (3, jv p3)]) [0, 1, 2] rfl (zv_exit (fun h => h))
    refine zv_lconst (z := 1) dX5_put_52 (by decide) ?_
    refine zv_goto (tgt := 58) dX5_put_53 (by decide) ?_
    exact zv_sub (L' := [(0, rn w p0), (1, jv p1), (3, jv p3)]) [0, 1, 2] rfl (zv_exit (fun h => h))
  refine zv_lstore_p (L' := [(9, jv x4), (0, rn w p0), (1, jv p1), (3, jv p3)]) dX5_put_58 (by decide) rfl ?_
  refine zv_rload_n dX5_put_60 1 rfl ?_
  refine zv_lload_n dX5_put_61 2 rfl ?_
  refine zv_lload dX5_put_62 0 rfl ?_
  refine zv_ldiv dX5_put_64 ?_
  refine zp_RX5_7 dX5_put_65 hp0 (fun M5 => ?_)
  refine zv_rload_n dX5_put_68 1 rfl ?_
  refine zv_lload_n dX5_put_69 3 rfl ?_
  refine zv_lconst (z := 0) dX5_put_70 (by decide) ?_
  refine zv_lcmp_ne (tgt := 79) dX5_put_71 dX5_put_72 (by decide) ?_ ?_
  · refine zv_lload_n dX5_put_79 3 rfl ?_
    refine zv_lload dX5_put_80 0 rfl ?_
    refine zv_ldiv dX5_put_82 ?_
    refine zp_RX5_13 dX5_put_83 hp0 (fun M6 => ?_)
    exact zv_ret (fun h => h) (zv_vret (v := 0) dX5_put_86)
  refine zv_lconst (z := 1) dX5_put_75 (by decide) ?_
  refine zv_goto (tgt := 83) dX5_put_76 (by decide) ?_
  refine zp_RX5_13 dX5_put_83 hp0 (fun M7 => ?_)
  exact zv_ret (fun h => h) (zv_vret (v := 0) dX5_put_86)
def f_X10_carried (k : zK)  (p0 : Nat) (p1 : Int) (p2 : Int) (M0 : zM) : Option (zM × Int) :=
  zbr p1 0 (p1 < 0) (some (M0, (-1))) (zbr p1 (M0 (zfr k p0 1) 17) (M0 (zfr k p0 1) 17 ≤ p1) (some (M0, (-1))) (zbr p1 60 (60 ≤ p1) (some (M0, (-1))) (zb1 (f_X10_isPart k p2 M0) (fun v1 => zbr v1 0 (¬ v1 = 0) (zb1 (f_X10_settle k p0 M0) (fun M3 => zgd (0 ≤ p1 ∧ p1 < 60) (zlt (M3 (zfr k (zfr k p0 1) 8) p1.toNat) (fun x4 => zgd (0 ≤ p1 ∧ p1 < 60) (zlt (M3 (zfr k (zfr k p0 1) 9) p1.toNat) (fun x5 => zgd (ztag k (M3 p0 10).toNat = 4 ∧ (M3 p0 10).toNat ≠ 0) (zlt (M3 p0 10).toNat (fun q6 => zgd (0 ≤ p1 ∧ p1 < 60) (zgd (0 ≤ M3 (zfr k (zfr k p0 1) 7) p1.toNat ∧ M3 (zfr k (zfr k p0 1) 7) p1.toNat < 3) (zgd (zr (M3 (zfr k q6 14) (M3 (zfr k (zfr k p0 1) 7) p1.toNat).toNat)) (zlt (M3 (zfr k q6 14) (M3 (zfr k (zfr k p0 1) 7) p1.toNat).toNat) (fun x8 => zbd (f_X10_sumLives k p0 x4 x5 M3) (fun M10 v9 => zlt (x8 * v9) (fun x11 => zgd (0 ≤ p1 ∧ p1 < 60) (zbd (f_X10_sumLivesIn k p0 (M10 (zfr k (zfr k p0 1) 6) p1.toNat) x4 x5 M10) (fun M13 v12 => zlt (((100 - x8) * 256) * v12) (fun x14 => zb1 (zbl (x11 + x14) 0 (¬ x11 + x14 = 0) (zb1 (f_X5_put k (zfr k p0 8) x11 (x11 + x14) M13) (fun M15 => some (M15))) (zb1 (f_X5_put k (zfr k p0 8) 0 1 M13) (fun M16 => some (M16)))) (fun M17 => zb1 (f_X5_part k (zfr k p0 8) p2 M17) (fun v18 => some (M17, v18)))))))))))))))))))) (some (M0, (-1)))))))
set_option maxRecDepth 20000 in
theorem c_X10_carried (l : Launch) {w : zW} (hw : zWk w)  (p0 : Nat) (p1 : Int) (p2 : Int) (M0 : zM) (hp0 : ztag w.1 p0 = 11) : zCn l yX10_carried cX10_carried 11 (some .long) (6) 2 w [rn w p0, iv p1, iv p2] M0 (f_X10_carried w.1 p0 p1 p2 M0) := by
  have hT := hw.1
  refine zCn_of (own := RX10) (by decide) rfl hw (Nat.le_of_ble_eq_true rfl) [(0, rn w p0), (1, iv p1), (2, iv p2)] rfl ?_
  intro κ hl
  subst hl
  unfold f_X10_carried
  refine zv_iload_n dX10_carried_0 1 rfl ?_
  refine zv_if_lt (tgt := 28) dX10_carried_1 (by decide) ?_ ?_
  · refine zv_ldc2 (z := (-1)) dX10_carried_28 zwK_RX10_279 (by decide) ?_
    exact zv_ret (fun h => h) (zv_lret dX10_carried_31)
  refine zv_iload_n dX10_carried_4 1 rfl ?_
  refine zv_rload_n dX10_carried_5 0 rfl ?_
  refine zg_RX10_19 dX10_carried_6 hp0 ?_
  refine zg_RX10_148 dX10_carried_9 (zta_10_1 hT hp0) ?_
  refine zv_icmp_ge (tgt := 28) dX10_carried_12 (by decide) ?_ ?_
  · refine zv_ldc2 (z := (-1)) dX10_carried_28 zwK_RX10_279 (by decide) ?_
    exact zv_ret (fun h => h) (zv_lret dX10_carried_31)
  refine zv_iload_n dX10_carried_15 1 rfl ?_
  refine zv_bipush (z := 60) dX10_carried_16 (by decide) ?_
  refine zv_icmp_ge (tgt := 28) dX10_carried_18 (by decide) ?_ ?_
  · refine zv_ldc2 (z := (-1)) dX10_carried_28 zwK_RX10_279 (by decide) ?_
    exact zv_ret (fun h => h) (zv_lret dX10_carried_31)
  refine zv_iload_n dX10_carried_21 2 rfl ?_
  refine zv_pc (zv_callSi [iv p2] (c_X10_isPart κ.2.1 hw p2 M0 ) zmd_X10_isPart zwT_X10_isPart zwM_RX10_200 rfl (by decide) rfl (Nat.le_of_ble_eq_true rfl) dX10_carried_22 (fun mh2 v1 h2 => ?_))
  obtain rfl := zpuE h2
  refine zv_if_ne (tgt := 32) dX10_carried_25 (by decide) ?_ ?_
  · refine zv_rload_n dX10_carried_32 0 rfl ?_
    refine zv_vc (zv_callVv [] (c_X10_settle κ.2.1 hw p0 M0 hp0) zmd_X10_settle zwI_X10_settle zwS_X10_settle zwM_RX10_213 zcd_10 hp0 rfl (by decide) rfl (Nat.le_of_ble_eq_true rfl) dX10_carried_33 (fun M3 _ _ => ?_))
    refine zv_rload_n dX10_carried_36 0 rfl ?_
    refine zg_RX10_19 dX10_carried_37 hp0 ?_
    refine zg_RX10_157 dX10_carried_40 (zta_10_1 hT hp0) ?_
    refine zv_iload_n dX10_carried_43 1 rfl ?_
    refine zv_iald dX10_carried_44 (zta_7_8 hT (zta_10_1 hT hp0)) (ztl_7_8 hT (zta_10_1 hT hp0)) (by decide) ?_
    refine zv_istore_n (i := 3) (by rfl) dX10_carried_45 (fun x4 => [(3, iv x4), (0, rn w p0), (1, iv p1), (2, iv p2)]) (by decide) (fun _ => rfl) (fun x4 => ?_)
    refine zv_rload_n dX10_carried_46 1 rfl ?_
    refine zg_RX10_19 dX10_carried_47 hp0 ?_
    refine zg_RX10_160 dX10_carried_50 (zta_10_1 hT hp0) ?_
    refine zv_iload_n dX10_carried_53 2 rfl ?_
    refine zv_iald dX10_carried_54 (zta_7_9 hT (zta_10_1 hT hp0)) (ztl_7_9 hT (zta_10_1 hT hp0)) (by decide) ?_
    refine zv_istore dX10_carried_55 (fun x5 => [(4, iv x5), (3, iv x4), (0, rn w p0), (1, iv p1), (2, iv p2)]) (by decide) (fun _ => rfl) (fun x5 => ?_)
    refine zv_rload_n dX10_carried_57 2 rfl ?_
    refine zg_RX10_74 dX10_carried_58 hp0 (fun q6 h7 => ?_)
    refine zg_RX10_350 dX10_carried_61 h7 ?_
    refine zv_rload_n dX10_carried_64 2 rfl ?_
    refine zg_RX10_19 dX10_carried_65 hp0 ?_
    refine zg_RX10_154 dX10_carried_68 (zta_10_1 hT hp0) ?_
    refine zv_iload_n dX10_carried_71 3 rfl ?_
    refine zv_iald dX10_carried_72 (zta_7_7 hT (zta_10_1 hT hp0)) (ztl_7_7 hT (zta_10_1 hT hp0)) (by decide) ?_
    refine zv_iald dX10_carried_73 (zta_3_14 hT h7) (ztl_3_14 hT h7) (by decide) ?_
    refine zv_i2l dX10_carried_74 ?_
    refine zv_lstore dX10_carried_75 (fun x8 => [(5, jv x8), (4, iv x5), (3, iv x4), (0, rn w p0), (1, iv p1), (2, iv p2)]) (by decide) (fun _ => rfl) (fun x8 => ?_)
    refine zv_lload dX10_carried_77 0 rfl ?_
    refine zv_rload_n dX10_carried_79 3 rfl ?_
    refine zv_iload_n dX10_carried_80 2 rfl ?_
    refine zv_iload dX10_carried_81 1 rfl ?_
    refine (zv_callVl [iv x4, iv x5] (c_X10_sumLives κ.2.1 hw p0 x4 x5 M3 hp0) zmd_X10_sumLives zwI_X10_sumLives zwS_X10_sumLives zwM_RX10_281 zcd_10 hp0 rfl (by decide) rfl (Nat.le_of_ble_eq_true rfl) dX10_carried_83 (fun M10 v9 _ => ?_))
    refine zv_lmul dX10_carried_86 ?_
    refine zv_lstore dX10_carried_87 (fun x11 => [(7, jv x11), (5, jv x8), (4, iv x5), (3, iv x4), (0, rn w p0), (1, iv p1), (2, iv p2)]) (by decide) (fun _ => rfl) (fun x11 => ?_)
    refine zv_ldc2 (z := 100) dX10_carried_89 zwK_RX10_353 (by decide) ?_
    refine zv_lload dX10_carried_92 1 rfl ?_
    refine zv_lsub dX10_carried_94 ?_
    refine zv_ldc2 (z := 256) dX10_carried_95 zwK_RX10_355 (by decide) ?_
    refine zv_lmul dX10_carried_98 ?_
    refine zv_rload_n dX10_carried_99 4 rfl ?_
    refine zv_rload_n dX10_carried_100 4 rfl ?_
    refine zg_RX10_19 dX10_carried_101 hp0 ?_
    refine zg_RX10_151 dX10_carried_104 (zta_10_1 hT hp0) ?_
    refine zv_iload_n dX10_carried_107 5 rfl ?_
    refine zv_iald dX10_carried_108 (zta_7_6 hT (zta_10_1 hT hp0)) (ztl_7_6 hT (zta_10_1 hT hp0)) (by decide) ?_
    refine zv_iload_n dX10_carried_109 3 rfl ?_
    refine zv_iload dX10_carried_110 2 rfl ?_
    refine (zv_callVl [iv (M10 (zfr w.1 (zfr w.1 p0 1) 6) p1.toNat), iv x4, iv x5] (c_X10_sumLivesIn κ.2.1 hw p0 (M10 (zfr w.1 (zfr w.1 p0 1) 6) p1.toNat) x4 x5 M10 hp0) zmd_X10_sumLivesIn zwI_X10_sumLivesIn zwS_X10_sumLivesIn zwM_RX10_285 zcd_10 hp0 rfl (by decide) rfl (Nat.le_of_ble_eq_true rfl) dX10_carried_112 (fun M13 v12 _ => ?_))
    refine zv_lmul dX10_carried_115 ?_
    refine zv_lstore dX10_carried_116 (fun x14 => [(9, jv x14), (7, jv x11), (5, jv x8), (4, iv x5), (3, iv x4), (0, rn w p0), (1, iv p1), (2, iv p2)]) (by decide) (fun _ => rfl) (fun x14 => ?_)
    refine zv_lload dX10_carried_118 1 rfl ?_
    refine zv_lload dX10_carried_120 0 rfl ?_
    refine zv_ladd dX10_carried_122 ?_
    refine zv_lconst (z := 0) dX10_carried_123 (by decide) ?_
    refine zv_join1 154 (fun M17 => [(0, rn w p0), (2, iv p2)]) (fun M17 => []) (fun M17 => M17) ?_ (fun M17 => ?_)
    · refine zv_lcmp_ne (tgt := 140) dX10_carried_124 dX10_carried_125 (by decide) ?_ ?_
      · refine zv_rload_n dX10_carried_140 5 rfl ?_
        refine zg_RX10_63 dX10_carried_141 hp0 ?_
        refine zv_lload dX10_carried_144 1 rfl ?_
        refine zv_lload dX10_carried_146 1 rfl ?_
        refine zv_lload dX10_carried_148 0 rfl ?_
        refine zv_ladd dX10_carried_150 ?_
        refine zv_vc (zv_callVv [jv x11, jv (x11 + x14)] (c_X5_put κ.2.1 hw (zfr w.1 p0 8) x11 (x11 + x14) M13 (zta_10_8 hT hp0)) zmd_X5_put zwI_X5_put zwS_X5_put zwM_RX10_289 zcd_5 (zta_10_8 hT hp0) rfl (by decide) rfl (Nat.le_of_ble_eq_true rfl) dX10_carried_151 (fun M15 _ _ => ?_))
        exact zv_sub (L' := [(0, rn w p0), (2, iv p2)]) [5, 7] rfl (zv_exit (fun h => h))
      refine zv_rload_n dX10_carried_128 5 rfl ?_
      refine zg_RX10_63 dX10_carried_129 hp0 ?_
      refine zv_lconst (z := 0) dX10_carried_132 (by decide) ?_
      refine zv_lconst (z := 1) dX10_carried_133 (by decide) ?_
      refine zv_vc (zv_callVv [jv 0, jv 1] (c_X5_put κ.2.1 hw (zfr w.1 p0 8) 0 1 M13 (zta_10_8 hT hp0)) zmd_X5_put zwI_X5_put zwS_X5_put zwM_RX10_289 zcd_5 (zta_10_8 hT hp0) rfl (by decide) rfl (Nat.le_of_ble_eq_true rfl) dX10_carried_134 (fun M16 _ _ => ?_))
      refine zv_goto (tgt := 154) dX10_carried_137 (by decide) ?_
      exact zv_sub (L' := [(0, rn w p0), (2, iv p2)]) [5, 7] rfl (zv_exit (fun h => h))
    refine zv_rload_n dX10_carried_154 0 rfl ?_
    refine zg_RX10_63 dX10_carried_155 hp0 ?_
    refine zv_iload_n dX10_carried_158 1 rfl ?_
    refine zv_pc (zv_callVl [iv p2] (c_X5_part κ.2.1 hw (zfr w.1 p0 8) p2 M17 (zta_10_8 hT hp0)) zmd_X5_part zwI_X5_part zwS_X5_part zwM_RX10_292 zcd_5 (zta_10_8 hT hp0) rfl (by decide) rfl (Nat.le_of_ble_eq_true rfl) dX10_carried_159 (fun mh19 v18 h19 => ?_))
    obtain rfl := zpuE h19
    exact zv_ret (fun h => h) (zv_lret dX10_carried_162)
  refine zv_ldc2 (z := (-1)) dX10_carried_28 zwK_RX10_279 (by decide) ?_
  exact zv_ret (fun h => h) (zv_lret dX10_carried_31)
def fb_X2_isSure_31 (k : zK)  (l0 : Nat) (l1 : Int) (l2 : Int) (M0 : zM) (y3 : Int) : Option ((Int) ⊕ ((Unit) ⊕ Int)) :=
  zbr y3 4 (4 ≤ y3) (some (.inr (.inl ()))) (zb1 (f_X10_beside k l1 y3 M0) (fun v2 => zbr v2 (-1) (v2 = (-1)) (zlt (y3 + 1) (fun x4 => some (.inl (x4)))) (zbr v2 l2 (v2 = l2) (zlt (y3 + 1) (fun x5 => some (.inl (x5)))) (zgd (0 ≤ v2 ∧ v2 < 256) (zgd (0 ≤ l2 ∧ l2 < 256) (zbr (M0 (zfr k l0 1) v2.toNat) (M0 (zfr k l0 2) l2.toNat) (M0 (zfr k l0 2) l2.toNat ≤ M0 (zfr k l0 1) v2.toNat) (zlt (y3 + 1) (fun x6 => some (.inl (x6)))) (some (.inr (.inr 0)))))))))
def f_X2_isSure (k : zK)  (p0 : Nat) (p1 : Int) (M0 : zM) : Option Int :=
  zgd (0 ≤ p1 ∧ p1 < 256) (zlt (M0 (zfr k p0 4) p1.toNat) (fun x1 => zbr x1 (-1) (x1 = (-1)) (some 0) (zgd (0 ≤ x1 ∧ x1 < 256) (zgd (0 ≤ p1 ∧ p1 < 256) (zbr (M0 (zfr k p0 2) x1.toNat) (M0 (zfr k p0 1) p1.toNat) (M0 (zfr k p0 2) x1.toNat < M0 (zfr k p0 1) p1.toNat) (zsp0 (zw1 (fb_X2_isSure_31 k p0 p1 x1 M0) zfu 0) (fun r => some ((r))) (some 1)) (some 0))))))
theorem vl_X2_isSure_31 {κ : zC} {w : zW} (hw : zWk w)  (l0 : Nat) (l1 : Int) (l2 : Int) (g0 : ztag w.1 l0 = 3) (M0 : zM) (E : ((Unit) ⊕ Int) → Prop) (hX : E (.inl ()) → zB cX2_isSure RX2 5 (some .boolean) κ w (0, 0, 1) 79 [] [] M0) (hR : ∀ r, E (.inr r) → zRt κ w (0, 0, 1) 1 (M0, r)) (y3 : Int) :
    zV cX2_isSure RX2 5 (some .boolean) κ w (0, 0, 1) 31 [(3, iv y3), (0, rn w l0), (1, iv l1), (2, iv l2)] [] M0 (zw1 (fb_X2_isSure_31 w.1 l0 l1 l2 M0) zfu y3) E := by
  have hT := hw.1
  refine zv_loop1 (fun y3 => [(3, iv y3), (0, rn w l0), (1, iv l1), (2, iv l2)]) (fun y3 => M0) (fun y3 => ?_) y3
  unfold fb_X2_isSure_31
  refine zv_iload_n dX2_isSure_31 0 rfl ?_
  refine zv_iconst (z := 4) dX2_isSure_32 ?_
  refine zv_icmp_ge (tgt := 79) dX2_isSure_33 (by decide) ?_ ?_
  · exact zv_sub (L' := []) [] rfl (zv_exit (fun h => hX  h))
  refine zv_iload_n dX2_isSure_36 2 rfl ?_
  refine zv_iload_n dX2_isSure_37 0 rfl ?_
  refine zv_pc (zv_callNi [iv l1, iv y3] (c_X10_beside κ.2.1 hw l1 y3 M0 ) zmd_X10_beside zwT_X10_beside zwQ_RX2_74 rfl (by decide) rfl (Nat.le_of_ble_eq_true rfl) dX2_isSure_38 (fun mh3 v2 h3 => ?_))
  obtain rfl := zpuE h3
  refine zv_istore_p (L' := [(4, iv v2), (3, iv y3), (0, rn w l0), (1, iv l1), (2, iv l2)]) dX2_isSure_41 (by decide) rfl ?_
  refine zv_iload dX2_isSure_43 0 rfl ?_
  refine zv_iconst (z := (-1)) dX2_isSure_45 ?_
  refine zv_icmp_eq (tgt := 73) dX2_isSure_46 (by decide) ?_ ?_
  · refine zv_iinc dX2_isSure_73 1 rfl (fun x4 => [(3, iv x4), (4, iv v2), (0, rn w l0), (1, iv l1), (2, iv l2)]) (by decide) (fun _ => rfl) (fun x4 => ?_)
    refine zv_goto (tgt := 31) dX2_isSure_76 (by decide) ?_
    exact zv_sub (L' := [(3, iv x4), (0, rn w l0), (1, iv l1), (2, iv l2)]) [0, 2, 3, 4] rfl (zv_exit (fun h => h))
  refine zv_iload dX2_isSure_49 0 rfl ?_
  refine zv_iload_n dX2_isSure_51 4 rfl ?_
  refine zv_icmp_eq (tgt := 73) dX2_isSure_52 (by decide) ?_ ?_
  · refine zv_iinc dX2_isSure_73 1 rfl (fun x5 => [(3, iv x5), (4, iv v2), (0, rn w l0), (1, iv l1), (2, iv l2)]) (by decide) (fun _ => rfl) (fun x5 => ?_)
    refine zv_goto (tgt := 31) dX2_isSure_76 (by decide) ?_
    exact zv_sub (L' := [(3, iv x5), (0, rn w l0), (1, iv l1), (2, iv l2)]) [0, 2, 3, 4] rfl (zv_exit (fun h => h))
  refine zv_rload_n dX2_isSure_55 2 rfl ?_
  refine zg_RX2_15 dX2_isSure_56 g0 ?_
  refine zv_iload dX2_isSure_59 0 rfl ?_
  refine zv_iald dX2_isSure_61 (zta_2_1 hT g0) (ztl_2_1 hT g0) (by decide) ?_
  refine zv_rload_n dX2_isSure_62 2 rfl ?_
  refine zg_RX2_18 dX2_isSure_63 g0 ?_
  refine zv_iload_n dX2_isSure_66 4 rfl ?_
  refine zv_iald dX2_isSure_67 (zta_2_2 hT g0) (ztl_2_2 hT g0) (by decide) ?_
  refine zv_icmp_ge (tgt := 73) dX2_isSure_68 (by decide) ?_ ?_
  · refine zv_iinc dX2_isSure_73 1 rfl (fun x6 => [(3, iv x6), (4, iv v2), (0, rn w l0), (1, iv l1), (2, iv l2)]) (by decide) (fun _ => rfl) (fun x6 => ?_)
    refine zv_goto (tgt := 31) dX2_isSure_76 (by decide) ?_
    exact zv_sub (L' := [(3, iv x6), (0, rn w l0), (1, iv l1), (2, iv l2)]) [0, 2, 3, 4] rfl (zv_exit (fun h => h))
  refine zv_iconst (z := 0) dX2_isSure_71 ?_
  exact zv_ret (fun h => hR _ h) (zv_zrB (by decide) dX2_isSure_72)
theorem c_X2_isSure (l : Launch) {w : zW} (hw : zWk w)  (p0 : Nat) (p1 : Int) (M0 : zM) (hp0 : ztag w.1 p0 = 3) : zCn l yX2_isSure cX2_isSure 5 (some .boolean) (1) 1 w [rn w p0, iv p1] M0 ((f_X2_isSure w.1 p0 p1 M0).map fun v => (M0, v)) := by
  have hT := hw.1
  refine zCn_ofP (own := RX2) (by decide) rfl hw (Nat.le_of_ble_eq_true rfl) [(0, rn w p0), (1, iv p1)] rfl ?_
  intro κ hl
  subst hl
  unfold f_X2_isSure
  refine zv_rload_n dX2_isSure_0 0 rfl ?_
  refine zg_RX2_24 dX2_isSure_1 hp0 ?_
  refine zv_iload_n dX2_isSure_4 1 rfl ?_
  refine zv_iald dX2_isSure_5 (zta_2_4 hT hp0) (ztl_2_4 hT hp0) (by decide) ?_
  refine zv_istore_n (i := 2) (by rfl) dX2_isSure_6 (fun x1 => [(2, iv x1), (0, rn w p0), (1, iv p1)]) (by decide) (fun _ => rfl) (fun x1 => ?_)
  refine zv_iload_n dX2_isSure_7 0 rfl ?_
  refine zv_iconst (z := (-1)) dX2_isSure_8 ?_
  refine zv_icmp_eq (tgt := 27) dX2_isSure_9 (by decide) ?_ ?_
  · refine zv_iconst (z := 0) dX2_isSure_27 ?_
    exact zv_ret (fun h => h) (zv_zrB (by decide) dX2_isSure_28)
  refine zv_rload_n dX2_isSure_12 1 rfl ?_
  refine zg_RX2_18 dX2_isSure_13 hp0 ?_
  refine zv_iload_n dX2_isSure_16 0 rfl ?_
  refine zv_iald dX2_isSure_17 (zta_2_2 hT hp0) (ztl_2_2 hT hp0) (by decide) ?_
  refine zv_rload_n dX2_isSure_18 1 rfl ?_
  refine zg_RX2_15 dX2_isSure_19 hp0 ?_
  refine zv_iload_n dX2_isSure_22 2 rfl ?_
  refine zv_iald dX2_isSure_23 (zta_2_1 hT hp0) (ztl_2_1 hT hp0) (by decide) ?_
  refine zv_icmp_lt (tgt := 29) dX2_isSure_24 (by decide) ?_ ?_
  · refine zv_iconst (z := 0) dX2_isSure_29 ?_
    refine zv_istore_np (L' := [(3, iv 0), (2, iv x1), (0, rn w p0), (1, iv p1)]) (by rfl) dX2_isSure_30 (by decide) rfl ?_
    refine zv_joinS0 (fun r => (r)) 79 ([]) ([]) (M0) (zv_sub (L' := [(3, iv 0), (0, rn w p0), (1, iv p1), (2, iv x1)]) [0, 2, 3, 1] rfl (vl_X2_isSure_31 hw p0 p1 x1 hp0 M0 _ (fun h => h) (fun _ h => ((fun h => h)) h) 0)) (?_)
    refine zv_iconst (z := 1) dX2_isSure_79 ?_
    exact zv_ret (fun h => h) (zv_zrB (by decide) dX2_isSure_80)
  refine zv_iconst (z := 0) dX2_isSure_27 ?_
  exact zv_ret (fun h => h) (zv_zrB (by decide) dX2_isSure_28)
def fb_X3_firstAgeAt_2 (k : zK)  (l1 : Nat) (l2 : Int) (M0 : zM) (y3 : Int) : Option ((Int) ⊕ ((Unit) ⊕ Int)) :=
  zbr y3 100 (100 ≤ y3) (some (.inr (.inl ()))) (zgd (0 ≤ y3 ∧ y3 < 100) (zbr (M0 l1 y3.toNat) l2 (M0 l1 y3.toNat < l2) (zlt (y3 + 1) (fun x1 => some (.inl (x1)))) (some (.inr (.inr y3)))))
def f_X3_firstAgeAt (k : zK)  (p0 : Nat) (p1 : Nat) (p2 : Int) (M0 : zM) : Option Int :=
  zsp0 (zw1 (fb_X3_firstAgeAt_2 k p1 p2 M0) zfu 0) (fun r => some ((r))) (some 100)
theorem vl_X3_firstAgeAt_2 {κ : zC} {w : zW} (hw : zWk w)  (l1 : Nat) (l2 : Int) (g1 : ztag w.1 l1 = 20) (gl1 : ((zlen w.1 l1 : Nat) : Int) = 100) (M0 : zM) (E : ((Unit) ⊕ Int) → Prop) (hX : E (.inl ()) → zB cX3_firstAgeAt RX3 4 (some .int) κ w (0, 0, 0) 23 [] [] M0) (hR : ∀ r, E (.inr r) → zRt κ w (0, 0, 0) 1 (M0, r)) (y3 : Int) :
    zV cX3_firstAgeAt RX3 4 (some .int) κ w (0, 0, 0) 2 [(3, iv y3), (1, rn w l1), (2, iv l2)] [] M0 (zw1 (fb_X3_firstAgeAt_2 w.1 l1 l2 M0) zfu y3) E := by
  have hT := hw.1
  refine zv_loop1 (fun y3 => [(3, iv y3), (1, rn w l1), (2, iv l2)]) (fun y3 => M0) (fun y3 => ?_) y3
  unfold fb_X3_firstAgeAt_2
  refine zv_iload_n dX3_firstAgeAt_2 0 rfl ?_
  refine zv_bipush (z := 100) dX3_firstAgeAt_3 (by decide) ?_
  refine zv_icmp_ge (tgt := 23) dX3_firstAgeAt_5 (by decide) ?_ ?_
  · exact zv_sub (L' := []) [] rfl (zv_exit (fun h => hX  h))
  refine zv_rload_n dX3_firstAgeAt_8 1 rfl ?_
  refine zv_iload_n dX3_firstAgeAt_9 0 rfl ?_
  refine zv_iald dX3_firstAgeAt_10 g1 gl1 (by decide) ?_
  refine zv_iload_n dX3_firstAgeAt_11 2 rfl ?_
  refine zv_icmp_lt (tgt := 17) dX3_firstAgeAt_12 (by decide) ?_ ?_
  · refine zv_iinc dX3_firstAgeAt_17 0 rfl (fun x1 => [(3, iv x1), (1, rn w l1), (2, iv l2)]) (by decide) (fun _ => rfl) (fun x1 => ?_)
    refine zv_goto (tgt := 2) dX3_firstAgeAt_20 (by decide) ?_
    exact zv_sub (L' := [(3, iv x1), (1, rn w l1), (2, iv l2)]) [0, 1, 2] rfl (zv_exit (fun h => h))
  refine zv_iload_n dX3_firstAgeAt_15 0 rfl ?_
  exact zv_ret (fun h => hR _ h) (zv_iret dX3_firstAgeAt_16)
theorem c_X3_firstAgeAt (l : Launch) {w : zW} (hw : zWk w)  (p0 : Nat) (p1 : Nat) (p2 : Int) (M0 : zM) (hp0 : ztag w.1 p0 = 4) (hp1 : ztag w.1 p1 = 20) (hlp1 : ((zlen w.1 p1 : Nat) : Int) = 100) : zCn l yX3_firstAgeAt cX3_firstAgeAt 4 (some .int) (0) 1 w [rn w p0, rn w p1, iv p2] M0 ((f_X3_firstAgeAt w.1 p0 p1 p2 M0).map fun v => (M0, v)) := by
  have hT := hw.1
  refine zCn_ofP (own := RX3) (by decide) rfl hw (Nat.le_of_ble_eq_true rfl) [(0, rn w p0), (1, rn w p1), (2, iv p2)] rfl ?_
  intro κ hl
  subst hl
  unfold f_X3_firstAgeAt
  refine zv_iconst (z := 0) dX3_firstAgeAt_0 ?_
  refine zv_istore_np (L' := [(3, iv 0), (0, rn w p0), (1, rn w p1), (2, iv p2)]) (by rfl) dX3_firstAgeAt_1 (by decide) rfl ?_
  refine zv_joinS0 (fun r => (r)) 23 ([]) ([]) (M0) (zv_sub (L' := [(3, iv 0), (1, rn w p1), (2, iv p2)]) [0, 2, 3] rfl (vl_X3_firstAgeAt_2 hw p1 p2 hp1 hlp1 M0 _ (fun h => h) (fun _ h => ((fun h => h)) h) 0)) (?_)
  refine zv_bipush (z := 100) dX3_firstAgeAt_23 (by decide) ?_
  exact zv_ret (fun h => h) (zv_iret dX3_firstAgeAt_25)

def f_X11_heightOf (k : zK)  (p0 : Nat) (p1 : Int) (M0 : zM) : Option Int :=
  zgd (0 ≤ p1 ∧ p1 < 256) (zbr (M0 (zfr k p0 55) p1.toNat) 0 (M0 (zfr k p0 55) p1.toNat = 0) (some 0) (zgd (0 ≤ p1 ∧ p1 < 256) (zgd (0 ≤ ((M0 (zfr k p0 51) p1.toNat) - (M0 p0 48)) - (M0 p0 49) ∧ ((M0 (zfr k p0 51) p1.toNat) - (M0 p0 48)) - (M0 p0 49) ≤ 2147483647) (some ((((M0 (zfr k p0 51) p1.toNat) - (M0 p0 48)) - (M0 p0 49)) / 2)))))
theorem c_X11_heightOf (l : Launch) {w : zW} (hw : zWk w)  (p0 : Nat) (p1 : Int) (M0 : zM) (hp0 : ztag w.1 p0 = 12) : zCn l yX11_heightOf cX11_heightOf 2 (some .int) (0) 1 w [rn w p0, iv p1] M0 ((f_X11_heightOf w.1 p0 p1 M0).map fun v => (M0, v)) := by
  have hT := hw.1
  refine zCn_ofP (own := RX11) (by decide) rfl hw (Nat.le_of_ble_eq_true rfl) [(0, rn w p0), (1, iv p1)] rfl ?_
  intro κ hl
  subst hl
  unfold f_X11_heightOf
  refine zv_rload_n dX11_heightOf_0 0 rfl ?_
  refine zg_RX11_139 dX11_heightOf_1 hp0 ?_
  refine zv_iload_n dX11_heightOf_4 1 rfl ?_
  refine zv_zald dX11_heightOf_5 (zta_11_55 hT hp0) (ztl_11_55 hT hp0) (by decide) ?_
  refine zv_if_eq (tgt := 30) dX11_heightOf_6 (by decide) ?_ ?_
  · refine zv_iconst (z := 0) dX11_heightOf_30 ?_
    exact zv_ret (fun h => h) (zv_iret dX11_heightOf_31)
  refine zv_rload_n dX11_heightOf_9 0 rfl ?_
  refine zg_RX11_127 dX11_heightOf_10 hp0 ?_
  refine zv_iload_n dX11_heightOf_13 1 rfl ?_
  refine zv_iald dX11_heightOf_14 (zta_11_51 hT hp0) (ztl_11_51 hT hp0) (by decide) ?_
  refine zv_rload_n dX11_heightOf_15 0 rfl ?_
  refine zg_RX11_329 dX11_heightOf_16 hp0 ?_
  refine zv_isub dX11_heightOf_19 ?_
  refine zv_rload_n dX11_heightOf_20 0 rfl ?_
  refine zg_RX11_332 dX11_heightOf_21 hp0 ?_
  refine zv_isub dX11_heightOf_24 ?_
  refine zv_iconst (z := 2) dX11_heightOf_25 ?_
  refine zv_idivc (by decide) dX11_heightOf_26 ?_
  refine zv_goto (tgt := 31) dX11_heightOf_27 (by decide) ?_
  exact zv_ret (fun h => h) (zv_iret dX11_heightOf_31)
def f_X11_asked (k : zK)  (p0 : Nat) (p1 : Int) (p2 : Int) (M0 : zM) : Option zM :=
  zgd (0 ≤ p1 ∧ p1 ≤ 2147483647) (zgd (0 ≤ (0 : Int) ∧ (0 : Int) < 7) (zlt (zst M0 (zfr k p0 46) (Int.toNat 0) (p1 % 16)) (fun M1 => zgd (0 ≤ p1 ∧ p1 ≤ 2147483647) (zgd (0 ≤ (1 : Int) ∧ (1 : Int) < 7) (zlt (zst M1 (zfr k p0 46) (Int.toNat 1) (p1 / 16)) (fun M2 => zgd (0 ≤ (2 : Int) ∧ (2 : Int) < 7) (zlt (zst M2 (zfr k p0 46) (Int.toNat 2) (p2)) (fun M3 => zb1 (f_X11_heightOf k p0 p1 M3) (fun v4 => zgd (0 ≤ (3 : Int) ∧ (3 : Int) < 7) (zlt (zst M3 (zfr k p0 46) (Int.toNat 3) (v4)) (fun M6 => zgd (0 ≤ p1 ∧ p1 < 256) (zgd (0 ≤ (4 : Int) ∧ (4 : Int) < 7) (zlt (zst M6 (zfr k p0 46) (Int.toNat 4) (M6 (zfr k p0 53) p1.toNat)) (fun M7 => zgd (0 ≤ p1 ∧ p1 < 256) (zgd (0 ≤ (5 : Int) ∧ (5 : Int) < 7) (zlt (zst M7 (zfr k p0 46) (Int.toNat 5) (M7 (zfr k p0 57) p1.toNat)) (fun M8 => zgd (0 ≤ p1 ∧ p1 < 256) (zgd (0 ≤ (6 : Int) ∧ (6 : Int) < 7) (zlt (zst M8 (zfr k p0 46) (Int.toNat 6) (M8 (zfr k p0 54) p1.toNat)) (fun M9 => some M9))))))))))))))))))))
theorem c_X11_asked (l : Launch) {w : zW} (hw : zWk w)  (p0 : Nat) (p1 : Int) (p2 : Int) (M0 : zM) (hp0 : ztag w.1 p0 = 12) : zCn l yX11_asked cX11_asked 3 none (1) 0 w [rn w p0, iv p1, iv p2] M0 ((f_X11_asked w.1 p0 p1 p2 M0).map fun m => (m, (0 : Int))) := by
  have hT := hw.1
  refine zCn_ofV (own := RX11) (by decide) rfl hw (Nat.le_of_ble_eq_true rfl) [(0, rn w p0), (1, iv p1), (2, iv p2)] rfl ?_
  intro κ hl
  subst hl
  unfold f_X11_asked
  refine zv_rload_n dX11_asked_0 0 rfl ?_
  refine zg_RX11_118 dX11_asked_1 hp0 ?_
  refine zv_iconst (z := 0) dX11_asked_4 ?_
  refine zv_iload_n dX11_asked_5 1 rfl ?_
  refine zv_bipush (z := 16) dX11_asked_6 (by decide) ?_
  refine zv_iremc (by decide) dX11_asked_8 ?_
  refine zv_iast dX11_asked_9 (zta_11_46 hT hp0) (ztl_11_46 hT hp0) (by decide) (fun M1 => ?_)
  refine zv_rload_n dX11_asked_10 0 rfl ?_
  refine zg_RX11_118 dX11_asked_11 hp0 ?_
  refine zv_iconst (z := 1) dX11_asked_14 ?_
  refine zv_iload_n dX11_asked_15 1 rfl ?_
  refine zv_bipush (z := 16) dX11_asked_16 (by decide) ?_
  refine zv_idivc (by decide) dX11_asked_18 ?_
  refine zv_iast dX11_asked_19 (zta_11_46 hT hp0) (ztl_11_46 hT hp0) (by decide) (fun M2 => ?_)
  refine zv_rload_n dX11_asked_20 0 rfl ?_
  refine zg_RX11_118 dX11_asked_21 hp0 ?_
  refine zv_iconst (z := 2) dX11_asked_24 ?_
  refine zv_iload_n dX11_asked_25 2 rfl ?_
  refine zv_iast dX11_asked_26 (zta_11_46 hT hp0) (ztl_11_46 hT hp0) (by decide) (fun M3 => ?_)
  refine zv_rload_n dX11_asked_27 0 rfl ?_
  refine zg_RX11_118 dX11_asked_28 hp0 ?_
  refine zv_iconst (z := 3) dX11_asked_31 ?_
  refine zv_rload_n dX11_asked_32 0 rfl ?_
  refine zv_iload_n dX11_asked_33 1 rfl ?_
  refine zv_pc (zv_callVi [iv p1] (c_X11_heightOf κ.2.1 hw p0 p1 M3 hp0) zmd_X11_heightOf zwI_X11_heightOf zwS_X11_heightOf zwM_RX11_356 zcd_11 hp0 rfl (by decide) rfl (Nat.le_of_ble_eq_true rfl) dX11_asked_34 (fun mh5 v4 h5 => ?_))
  obtain rfl := zpuE h5
  refine zv_iast dX11_asked_37 (zta_11_46 hT hp0) (ztl_11_46 hT hp0) (by decide) (fun M6 => ?_)
  refine zv_rload_n dX11_asked_38 0 rfl ?_
  refine zg_RX11_118 dX11_asked_39 hp0 ?_
  refine zv_iconst (z := 4) dX11_asked_42 ?_
  refine zv_rload_n dX11_asked_43 0 rfl ?_
  refine zg_RX11_133 dX11_asked_44 hp0 ?_
  refine zv_iload_n dX11_asked_47 1 rfl ?_
  refine zv_iald dX11_asked_48 (zta_11_53 hT hp0) (ztl_11_53 hT hp0) (by decide) ?_
  refine zv_iast dX11_asked_49 (zta_11_46 hT hp0) (ztl_11_46 hT hp0) (by decide) (fun M7 => ?_)
  refine zv_rload_n dX11_asked_50 0 rfl ?_
  refine zg_RX11_118 dX11_asked_51 hp0 ?_
  refine zv_iconst (z := 5) dX11_asked_54 ?_
  refine zv_rload_n dX11_asked_55 0 rfl ?_
  refine zg_RX11_145 dX11_asked_56 hp0 ?_
  refine zv_iload_n dX11_asked_59 1 rfl ?_
  refine zv_iald dX11_asked_60 (zta_11_57 hT hp0) (ztl_11_57 hT hp0) (by decide) ?_
  refine zv_iast dX11_asked_61 (zta_11_46 hT hp0) (ztl_11_46 hT hp0) (by decide) (fun M8 => ?_)
  refine zv_rload_n dX11_asked_62 0 rfl ?_
  refine zg_RX11_118 dX11_asked_63 hp0 ?_
  refine zv_bipush (z := 6) dX11_asked_66 (by decide) ?_
  refine zv_rload_n dX11_asked_68 0 rfl ?_
  refine zg_RX11_136 dX11_asked_69 hp0 ?_
  refine zv_iload_n dX11_asked_72 1 rfl ?_
  refine zv_iald dX11_asked_73 (zta_11_54 hT hp0) (ztl_11_54 hT hp0) (by decide) ?_
  refine zv_iast dX11_asked_74 (zta_11_46 hT hp0) (ztl_11_46 hT hp0) (by decide) (fun M9 => ?_)
  exact zv_ret (fun h => h) (zv_vret (v := 0) dX11_asked_75)
def fb_X11_holds_9 (k : zK)  (l0 : Nat) (l1 : Int) (y2 : Int) (y3 : Int) (M0 : zM) : Option ((Int × Int × zM) ⊕ (Int × zM)) :=
  zgd (0 ≤ l1 ∧ l1 < 80) (zbr y3 (M0 (zfr k l0 27) l1.toNat) (M0 (zfr k l0 27) l1.toNat ≤ y3) (some (.inr (y2, M0))) (zgd (0 ≤ y3 ∧ y3 < 2000) (zbr (M0 (zfr k l0 29) y3.toNat) 0 (¬ M0 (zfr k l0 29) y3.toNat = 0) (zgd (0 ≤ y3 ∧ y3 < 2000) (zbr (M0 (zfr k l0 29) y3.toNat) 1 (¬ M0 (zfr k l0 29) y3.toNat = 1) (zlt (y2 + (-1)) (fun x2 => zgd (0 ≤ y3 ∧ y3 < 2000) (zbr (M0 (zfr k l0 29) y3.toNat) 2 (¬ M0 (zfr k l0 29) y3.toNat = 2) (zgd (0 ≤ x2 - 1 ∧ x2 - 1 < 300) (zsp2 (zbr (M0 (zfr k l0 47) (x2 - 1).toNat) 0 (¬ M0 (zfr k l0 47) (x2 - 1).toNat = 0) (some (.inl (y3, M0))) (zgd (0 ≤ x2 ∧ x2 < 300) (zbr (M0 (zfr k l0 47) x2.toNat) 0 (M0 (zfr k l0 47) x2.toNat = 0) (zgd (((0 : Int) = 0 ∨ (0 : Int) = 1) ∧ 0 ≤ x2 - 1 ∧ x2 - 1 < 300) (zlt (zst M0 (zfr k l0 47) (x2 - 1).toNat (0)) (fun M3 => zlt (y3 + 1) (fun x4 => some (.inr (.inl (x2, x4, M3))))))) (some (.inl (y3, M0)))))) (fun r => some r) (fun x5 M6 => zgd (((1 : Int) = 0 ∨ (1 : Int) = 1) ∧ 0 ≤ x2 - 1 ∧ x2 - 1 < 300) (zlt (zst M6 (zfr k l0 47) (x2 - 1).toNat (1)) (fun M7 => zlt (x5 + 1) (fun x8 => some (.inl (x2, x8, M7)))))))) (zgd (0 ≤ x2 - 1 ∧ x2 - 1 < 300) (zsp2 (zbr (M0 (zfr k l0 47) (x2 - 1).toNat) 0 (M0 (zfr k l0 47) (x2 - 1).toNat = 0) (some (.inl (y3, M0))) (zgd (0 ≤ x2 ∧ x2 < 300) (zbr (M0 (zfr k l0 47) x2.toNat) 0 (M0 (zfr k l0 47) x2.toNat = 0) (some (.inl (y3, M0))) (zgd (((1 : Int) = 0 ∨ (1 : Int) = 1) ∧ 0 ≤ x2 - 1 ∧ x2 - 1 < 300) (zlt (zst M0 (zfr k l0 47) (x2 - 1).toNat (1)) (fun M9 => zlt (y3 + 1) (fun x10 => some (.inr (.inl (x2, x10, M9)))))))))) (fun r => some r) (fun x11 M12 => zgd (((0 : Int) = 0 ∨ (0 : Int) = 1) ∧ 0 ≤ x2 - 1 ∧ x2 - 1 < 300) (zlt (zst M12 (zfr k l0 47) (x2 - 1).toNat (0)) (fun M13 => zlt (x11 + 1) (fun x14 => some (.inl (x2, x14, M13))))))))))) (zgd (0 ≤ y2 - 1 ∧ y2 - 1 < 300) (zbr (M0 (zfr k l0 47) (y2 - 1).toNat) 0 (¬ M0 (zfr k l0 47) (y2 - 1).toNat = 0) (zgd (((0 : Int) = 0 ∨ (0 : Int) = 1) ∧ 0 ≤ y2 - 1 ∧ y2 - 1 < 300) (zlt (zst M0 (zfr k l0 47) (y2 - 1).toNat (0)) (fun M15 => zlt (y3 + 1) (fun x16 => some (.inl (y2, x16, M15)))))) (zgd (((1 : Int) = 0 ∨ (1 : Int) = 1) ∧ 0 ≤ y2 - 1 ∧ y2 - 1 < 300) (zlt (zst M0 (zfr k l0 47) (y2 - 1).toNat (1)) (fun M17 => zlt (y3 + 1) (fun x18 => some (.inl (y2, x18, M17)))))))))) (zgd (0 ≤ y3 ∧ y3 < 2000) (zgd (0 ≤ M0 (zfr k l0 30) y3.toNat ∧ M0 (zfr k l0 30) y3.toNat < 7) (zlt (M0 (zfr k l0 46) (M0 (zfr k l0 30) y3.toNat).toNat) (fun x19 => zgd (0 ≤ y3 ∧ y3 < 2000) (zb1 (zbr (M0 (zfr k l0 31) y3.toNat) 60 (¬ M0 (zfr k l0 31) y3.toNat = 60) (zgd (0 ≤ y3 ∧ y3 < 2000) (zbr (M0 (zfr k l0 31) y3.toNat) 62 (¬ M0 (zfr k l0 31) y3.toNat = 62) (zgd (0 ≤ y3 ∧ y3 < 2000) (zbr x19 (M0 (zfr k l0 32) y3.toNat) (¬ x19 = M0 (zfr k l0 32) y3.toNat) (some (0)) (some (1)))) (zgd (0 ≤ y3 ∧ y3 < 2000) (zbr x19 (M0 (zfr k l0 32) y3.toNat) (x19 ≤ M0 (zfr k l0 32) y3.toNat) (some (0)) (some (1)))))) (zgd (0 ≤ y3 ∧ y3 < 2000) (zbr x19 (M0 (zfr k l0 32) y3.toNat) (M0 (zfr k l0 32) y3.toNat ≤ x19) (some (0)) (some (1))))) (fun x20 => zgd ((x20 = 0 ∨ x20 = 1) ∧ 0 ≤ y2 ∧ y2 < 300) (zlt (zst M0 (zfr k l0 47) y2.toNat (x20)) (fun M21 => zlt (y2 + 1) (fun x22 => zlt (y3 + 1) (fun x23 => some (.inl (x22, x23, M21)))))))))))))))
def f_X11_holds (k : zK)  (p0 : Nat) (p1 : Int) (M0 : zM) : Option (zM × Int) :=
  zgd (0 ≤ p1 ∧ p1 < 80) (zlt (M0 (zfr k p0 26) p1.toNat) (fun x1 => zb2 (zw3 (fb_X11_holds_9 k p0 p1) zfu 0 x1 M0) (fun x24 M25 => zbr x24 0 (x24 = 0) (some (M25, 1)) (zgd (0 ≤ (0 : Int) ∧ (0 : Int) < 300) (zbr (M25 (zfr k p0 47) (Int.toNat 0)) 0 (M25 (zfr k p0 47) (Int.toNat 0) = 0) (some (M25, 0)) (some (M25, 1)))))))
set_option maxRecDepth 20000 in
theorem vl_X11_holds_9 {κ : zC} {w : zW} (hw : zWk w)  (l0 : Nat) (l1 : Int) (g0 : ztag w.1 l0 = 12)  (E : (Int × zM) → Prop) (hX : ∀ (u2 : Int) (M1 : zM), E (u2, M1) → zB cX11_holds RX11 5 (some .boolean) κ w (0, 0, 0) 246 [(0, rn w l0), (2, iv u2)] [] M1)  (y2 : Int) (y3 : Int) (M0 : zM) :
    zV cX11_holds RX11 5 (some .boolean) κ w (0, 0, 0) 9 [(2, iv y2), (3, iv y3), (0, rn w l0), (1, iv l1)] [] M0 (zw3 (fb_X11_holds_9 w.1 l0 l1) zfu y2 y3 M0) E := by
  have hT := hw.1
  refine zv_loop3 (fun y2 y3 M0 => [(2, iv y2), (3, iv y3), (0, rn w l0), (1, iv l1)]) (fun y2 y3 M0 => M0) (fun y2 y3 M0 => ?_) y2 y3 M0
  unfold fb_X11_holds_9
  refine zv_iload_n dX11_holds_9 1 rfl ?_
  refine zv_rload_n dX11_holds_10 2 rfl ?_
  refine zg_RX11_89 dX11_holds_11 g0 ?_
  refine zv_iload_n dX11_holds_14 3 rfl ?_
  refine zv_iald dX11_holds_15 (zta_11_27 hT g0) (ztl_11_27 hT g0) (by decide) ?_
  refine zv_icmp_ge (tgt := 246) dX11_holds_16 (by decide) ?_ ?_
  · exact zv_sub (L' := [(0, rn w l0), (2, iv y2)]) [2, 0] rfl (zv_exit (fun h => hX _ _ h))
  refine zv_rload_n dX11_holds_19 2 rfl ?_
  refine zg_RX11_92 dX11_holds_20 g0 ?_
  refine zv_iload_n dX11_holds_23 1 rfl ?_
  refine zv_iald dX11_holds_24 (zta_11_29 hT g0) (ztl_11_29 hT g0) (by decide) ?_
  refine zv_if_ne (tgt := 129) dX11_holds_25 (by decide) ?_ ?_
  · refine zv_rload_n dX11_holds_129 2 rfl ?_
    refine zg_RX11_92 dX11_holds_130 g0 ?_
    refine zv_iload_n dX11_holds_133 1 rfl ?_
    refine zv_iald dX11_holds_134 (zta_11_29 hT g0) (ztl_11_29 hT g0) (by decide) ?_
    refine zv_iconst (z := 1) dX11_holds_135 ?_
    refine zv_icmp_ne (tgt := 166) dX11_holds_136 (by decide) ?_ ?_
    · refine zv_iinc dX11_holds_166 0 rfl (fun x2 => [(2, iv x2), (3, iv y3), (0, rn w l0), (1, iv l1)]) (by decide) (fun _ => rfl) (fun x2 => ?_)
      refine zv_rload_n dX11_holds_169 2 rfl ?_
      refine zg_RX11_121 dX11_holds_170 g0 ?_
      refine zv_iload_n dX11_holds_173 0 rfl ?_
      refine zv_iconst (z := 1) dX11_holds_174 ?_
      refine zv_isub dX11_holds_175 ?_
      refine zv_rload_n dX11_holds_176 2 rfl ?_
      refine zg_RX11_92 dX11_holds_177 g0 ?_
      refine zv_iload_n dX11_holds_180 1 rfl ?_
      refine zv_iald dX11_holds_181 (zta_11_29 hT g0) (ztl_11_29 hT g0) (by decide) ?_
      refine zv_iconst (z := 2) dX11_holds_182 ?_
      refine zv_icmp_ne (tgt := 214) dX11_holds_183 (by decide) ?_ ?_
      · refine zv_rload_n dX11_holds_214 2 rfl ?_
        refine zg_RX11_121 dX11_holds_215 g0 ?_
        refine zv_iload_n dX11_holds_218 0 rfl ?_
        refine zv_iconst (z := 1) dX11_holds_219 ?_
        refine zv_isub dX11_holds_220 ?_
        refine zv_zald dX11_holds_221 (zta_11_47 hT g0) (ztl_11_47 hT g0) (by decide) ?_
        refine zv_joinS2 (fun r => r) 234 (fun x5 M6 => [(3, iv x5), (2, iv x2), (0, rn w l0), (1, iv l1)]) (fun x5 M6 => [iv (x2 - 1), rn w (zfr w.1 l0 47)]) (fun x5 M6 => M6) ?_ (fun x5 M6 => ?_)
        · refine zv_if_ne (tgt := 234) dX11_holds_222 (by decide) ?_ ?_
          · exact zv_sub (L' := [(3, iv y3), (2, iv x2), (0, rn w l0), (1, iv l1)]) [1, 0, 2, 3] rfl (zv_exit (fun h => h))
          refine zv_rload_n dX11_holds_225 2 rfl ?_
          refine zg_RX11_121 dX11_holds_226 g0 ?_
          refine zv_iload_n dX11_holds_229 0 rfl ?_
          refine zv_zald dX11_holds_230 (zta_11_47 hT g0) (ztl_11_47 hT g0) (by decide) ?_
          refine zv_if_eq (tgt := 238) dX11_holds_231 (by decide) ?_ ?_
          · refine zv_iconst (z := 0) dX11_holds_238 ?_
            refine zv_zast dX11_holds_239 (zta_11_47 hT g0) (ztl_11_47 hT g0) (by decide) (fun M3 => ?_)
            refine zv_iinc dX11_holds_240 1 rfl (fun x4 => [(3, iv x4), (2, iv x2), (0, rn w l0), (1, iv l1)]) (by decide) (fun _ => rfl) (fun x4 => ?_)
            refine zv_goto (tgt := 9) dX11_holds_243 (by decide) ?_
            exact zv_sub (L' := [(2, iv x2), (3, iv x4), (0, rn w l0), (1, iv l1)]) [1, 0, 2, 3] rfl (zv_exit (fun h => h))
          exact zv_sub (L' := [(3, iv y3), (2, iv x2), (0, rn w l0), (1, iv l1)]) [1, 0, 2, 3] rfl (zv_exit (fun h => h))
        refine zv_iconst (z := 1) dX11_holds_234 ?_
        refine zv_goto (tgt := 239) dX11_holds_235 (by decide) ?_
        refine zv_zast dX11_holds_239 (zta_11_47 hT g0) (ztl_11_47 hT g0) (by decide) (fun M7 => ?_)
        refine zv_iinc dX11_holds_240 0 rfl (fun x8 => [(3, iv x8), (2, iv x2), (0, rn w l0), (1, iv l1)]) (by decide) (fun _ => rfl) (fun x8 => ?_)
        refine zv_goto (tgt := 9) dX11_holds_243 (by decide) ?_
        exact zv_sub (L' := [(2, iv x2), (3, iv x8), (0, rn w l0), (1, iv l1)]) [1, 0, 2, 3] rfl (zv_exit (fun h => h))
      refine zv_rload_n dX11_holds_186 2 rfl ?_
      refine zg_RX11_121 dX11_holds_187 g0 ?_
      refine zv_iload_n dX11_holds_190 0 rfl ?_
      refine zv_iconst (z := 1) dX11_holds_191 ?_
      refine zv_isub dX11_holds_192 ?_
      refine zv_zald dX11_holds_193 (zta_11_47 hT g0) (ztl_11_47 hT g0) (by decide) ?_
      refine zv_joinS2 (fun r => r) 210 (fun x11 M12 => [(3, iv x11), (2, iv x2), (0, rn w l0), (1, iv l1)]) (fun x11 M12 => [iv (x2 - 1), rn w (zfr w.1 l0 47)]) (fun x11 M12 => M12) ?_ (fun x11 M12 => ?_)
      · refine zv_if_eq (tgt := 210) dX11_holds_194 (by decide) ?_ ?_
        · exact zv_sub (L' := [(3, iv y3), (2, iv x2), (0, rn w l0), (1, iv l1)]) [1, 0, 2, 3] rfl (zv_exit (fun h => h))
        refine zv_rload_n dX11_holds_197 2 rfl ?_
        refine zg_RX11_121 dX11_holds_198 g0 ?_
        refine zv_iload_n dX11_holds_201 0 rfl ?_
        refine zv_zald dX11_holds_202 (zta_11_47 hT g0) (ztl_11_47 hT g0) (by decide) ?_
        refine zv_if_eq (tgt := 210) dX11_holds_203 (by decide) ?_ ?_
        · exact zv_sub (L' := [(3, iv y3), (2, iv x2), (0, rn w l0), (1, iv l1)]) [1, 0, 2, 3] rfl (zv_exit (fun h => h))
        refine zv_iconst (z := 1) dX11_holds_206 ?_
        refine zv_goto (tgt := 239) dX11_holds_207 (by decide) ?_
        refine zv_zast dX11_holds_239 (zta_11_47 hT g0) (ztl_11_47 hT g0) (by decide) (fun M9 => ?_)
        refine zv_iinc dX11_holds_240 1 rfl (fun x10 => [(3, iv x10), (2, iv x2), (0, rn w l0), (1, iv l1)]) (by decide) (fun _ => rfl) (fun x10 => ?_)
        refine zv_goto (tgt := 9) dX11_holds_243 (by decide) ?_
        exact zv_sub (L' := [(2, iv x2), (3, iv x10), (0, rn w l0), (1, iv l1)]) [1, 0, 2, 3] rfl (zv_exit (fun h => h))
      refine zv_iconst (z := 0) dX11_holds_210 ?_
      refine zv_goto (tgt := 239) dX11_holds_211 (by decide) ?_
      refine zv_zast dX11_holds_239 (zta_11_47 hT g0) (ztl_11_47 hT g0) (by decide) (fun M13 => ?_)
      refine zv_iinc dX11_holds_240 0 rfl (fun x14 => [(3, iv x14), (2, iv x2), (0, rn w l0), (1, iv l1)]) (by decide) (fun _ => rfl) (fun x14 => ?_)
      refine zv_goto (tgt := 9) dX11_holds_243 (by decide) ?_
      exact zv_sub (L' := [(2, iv x2), (3, iv x14), (0, rn w l0), (1, iv l1)]) [1, 0, 2, 3] rfl (zv_exit (fun h => h))
    refine zv_rload_n dX11_holds_139 2 rfl ?_
    refine zg_RX11_121 dX11_holds_140 g0 ?_
    refine zv_iload_n dX11_holds_143 0 rfl ?_
    refine zv_iconst (z := 1) dX11_holds_144 ?_
    refine zv_isub dX11_holds_145 ?_
    refine zv_rload_n dX11_holds_146 2 rfl ?_
    refine zg_RX11_121 dX11_holds_147 g0 ?_
    refine zv_iload_n dX11_holds_150 0 rfl ?_
    refine zv_iconst (z := 1) dX11_holds_151 ?_
    refine zv_isub dX11_holds_152 ?_
    refine zv_zald dX11_holds_153 (zta_11_47 hT g0) (ztl_11_47 hT g0) (by decide) ?_
    refine zv_if_ne (tgt := 161) dX11_holds_154 (by decide) ?_ ?_
    · refine zv_iconst (z := 0) dX11_holds_161 ?_
      refine zv_zast dX11_holds_162 (zta_11_47 hT g0) (ztl_11_47 hT g0) (by decide) (fun M15 => ?_)
      refine zv_goto (tgt := 240) dX11_holds_163 (by decide) ?_
      refine zv_iinc dX11_holds_240 1 rfl (fun x16 => [(3, iv x16), (2, iv y2), (0, rn w l0), (1, iv l1)]) (by decide) (fun _ => rfl) (fun x16 => ?_)
      refine zv_goto (tgt := 9) dX11_holds_243 (by decide) ?_
      exact zv_sub (L' := [(2, iv y2), (3, iv x16), (0, rn w l0), (1, iv l1)]) [1, 0, 2, 3] rfl (zv_exit (fun h => h))
    refine zv_iconst (z := 1) dX11_holds_157 ?_
    refine zv_goto (tgt := 162) dX11_holds_158 (by decide) ?_
    refine zv_zast dX11_holds_162 (zta_11_47 hT g0) (ztl_11_47 hT g0) (by decide) (fun M17 => ?_)
    refine zv_goto (tgt := 240) dX11_holds_163 (by decide) ?_
    refine zv_iinc dX11_holds_240 1 rfl (fun x18 => [(3, iv x18), (2, iv y2), (0, rn w l0), (1, iv l1)]) (by decide) (fun _ => rfl) (fun x18 => ?_)
    refine zv_goto (tgt := 9) dX11_holds_243 (by decide) ?_
    exact zv_sub (L' := [(2, iv y2), (3, iv x18), (0, rn w l0), (1, iv l1)]) [1, 0, 2, 3] rfl (zv_exit (fun h => h))
  refine zv_rload_n dX11_holds_28 2 rfl ?_
  refine zg_RX11_118 dX11_holds_29 g0 ?_
  refine zv_rload_n dX11_holds_32 2 rfl ?_
  refine zg_RX11_95 dX11_holds_33 g0 ?_
  refine zv_iload_n dX11_holds_36 1 rfl ?_
  refine zv_iald dX11_holds_37 (zta_11_30 hT g0) (ztl_11_30 hT g0) (by decide) ?_
  refine zv_iald dX11_holds_38 (zta_11_46 hT g0) (ztl_11_46 hT g0) (by decide) ?_
  refine zv_istore dX11_holds_39 (fun x19 => [(4, iv x19), (2, iv y2), (3, iv y3), (0, rn w l0), (1, iv l1)]) (by decide) (fun _ => rfl) (fun x19 => ?_)
  refine zv_rload_n dX11_holds_41 3 rfl ?_
  refine zg_RX11_121 dX11_holds_42 g0 ?_
  refine zv_iload_n dX11_holds_45 1 rfl ?_
  refine zv_rload_n dX11_holds_46 3 rfl ?_
  refine zg_RX11_98 dX11_holds_47 g0 ?_
  refine zv_iload_n dX11_holds_50 2 rfl ?_
  refine zv_iald dX11_holds_51 (zta_11_31 hT g0) (ztl_11_31 hT g0) (by decide) ?_
  refine zv_bipush (z := 60) dX11_holds_52 (by decide) ?_
  refine zv_join1 122 (fun x20 => [(2, iv y2), (3, iv y3), (0, rn w l0), (1, iv l1)]) (fun x20 => [iv x20, iv y2, rn w (zfr w.1 l0 47)]) (fun x20 => M0) ?_ (fun x20 => ?_)
  · refine zv_icmp_ne (tgt := 76) dX11_holds_54 (by decide) ?_ ?_
    · refine zv_rload_n dX11_holds_76 3 rfl ?_
      refine zg_RX11_98 dX11_holds_77 g0 ?_
      refine zv_iload_n dX11_holds_80 2 rfl ?_
      refine zv_iald dX11_holds_81 (zta_11_31 hT g0) (ztl_11_31 hT g0) (by decide) ?_
      refine zv_bipush (z := 62) dX11_holds_82 (by decide) ?_
      refine zv_icmp_ne (tgt := 106) dX11_holds_84 (by decide) ?_ ?_
      · refine zv_iload dX11_holds_106 0 rfl ?_
        refine zv_rload_n dX11_holds_108 3 rfl ?_
        refine zg_RX11_101 dX11_holds_109 g0 ?_
        refine zv_iload_n dX11_holds_112 2 rfl ?_
        refine zv_iald dX11_holds_113 (zta_11_32 hT g0) (ztl_11_32 hT g0) (by decide) ?_
        refine zv_icmp_ne (tgt := 121) dX11_holds_114 (by decide) ?_ ?_
        · refine zv_iconst (z := 0) dX11_holds_121 ?_
          exact zv_sub (L' := [(2, iv y2), (3, iv y3), (0, rn w l0), (1, iv l1)]) [1, 2, 3, 4] rfl (zv_exit (fun h => h))
        refine zv_iconst (z := 1) dX11_holds_117 ?_
        refine zv_goto (tgt := 122) dX11_holds_118 (by decide) ?_
        exact zv_sub (L' := [(2, iv y2), (3, iv y3), (0, rn w l0), (1, iv l1)]) [1, 2, 3, 4] rfl (zv_exit (fun h => h))
      refine zv_iload dX11_holds_87 0 rfl ?_
      refine zv_rload_n dX11_holds_89 3 rfl ?_
      refine zg_RX11_101 dX11_holds_90 g0 ?_
      refine zv_iload_n dX11_holds_93 2 rfl ?_
      refine zv_iald dX11_holds_94 (zta_11_32 hT g0) (ztl_11_32 hT g0) (by decide) ?_
      refine zv_icmp_le (tgt := 102) dX11_holds_95 (by decide) ?_ ?_
      · refine zv_iconst (z := 0) dX11_holds_102 ?_
        refine zv_goto (tgt := 122) dX11_holds_103 (by decide) ?_
        exact zv_sub (L' := [(2, iv y2), (3, iv y3), (0, rn w l0), (1, iv l1)]) [1, 2, 3, 4] rfl (zv_exit (fun h => h))
      refine zv_iconst (z := 1) dX11_holds_98 ?_
      refine zv_goto (tgt := 122) dX11_holds_99 (by decide) ?_
      exact zv_sub (L' := [(2, iv y2), (3, iv y3), (0, rn w l0), (1, iv l1)]) [1, 2, 3, 4] rfl (zv_exit (fun h => h))
    refine zv_iload dX11_holds_57 0 rfl ?_
    refine zv_rload_n dX11_holds_59 3 rfl ?_
    refine zg_RX11_101 dX11_holds_60 g0 ?_
    refine zv_iload_n dX11_holds_63 2 rfl ?_
    refine zv_iald dX11_holds_64 (zta_11_32 hT g0) (ztl_11_32 hT g0) (by decide) ?_
    refine zv_icmp_ge (tgt := 72) dX11_holds_65 (by decide) ?_ ?_
    · refine zv_iconst (z := 0) dX11_holds_72 ?_
      refine zv_goto (tgt := 122) dX11_holds_73 (by decide) ?_
      exact zv_sub (L' := [(2, iv y2), (3, iv y3), (0, rn w l0), (1, iv l1)]) [1, 2, 3, 4] rfl (zv_exit (fun h => h))
    refine zv_iconst (z := 1) dX11_holds_68 ?_
    refine zv_goto (tgt := 122) dX11_holds_69 (by decide) ?_
    exact zv_sub (L' := [(2, iv y2), (3, iv y3), (0, rn w l0), (1, iv l1)]) [1, 2, 3, 4] rfl (zv_exit (fun h => h))
  refine zv_zast dX11_holds_122 (zta_11_47 hT g0) (ztl_11_47 hT g0) (by decide) (fun M21 => ?_)
  refine zv_iinc dX11_holds_123 0 rfl (fun x22 => [(2, iv x22), (3, iv y3), (0, rn w l0), (1, iv l1)]) (by decide) (fun _ => rfl) (fun x22 => ?_)
  refine zv_goto (tgt := 240) dX11_holds_126 (by decide) ?_
  refine zv_iinc dX11_holds_240 1 rfl (fun x23 => [(3, iv x23), (2, iv x22), (0, rn w l0), (1, iv l1)]) (by decide) (fun _ => rfl) (fun x23 => ?_)
  refine zv_goto (tgt := 9) dX11_holds_243 (by decide) ?_
  exact zv_sub (L' := [(2, iv x22), (3, iv x23), (0, rn w l0), (1, iv l1)]) [1, 0, 2, 3] rfl (zv_exit (fun h => h))
theorem c_X11_holds (l : Launch) {w : zW} (hw : zWk w)  (p0 : Nat) (p1 : Int) (M0 : zM) (hp0 : ztag w.1 p0 = 12) : zCn l yX11_holds cX11_holds 5 (some .boolean) (0) 1 w [rn w p0, iv p1] M0 (f_X11_holds w.1 p0 p1 M0) := by
  have hT := hw.1
  refine zCn_of (own := RX11) (by decide) rfl hw (Nat.le_of_ble_eq_true rfl) [(0, rn w p0), (1, iv p1)] rfl ?_
  intro κ hl
  subst hl
  unfold f_X11_holds
  refine zv_iconst (z := 0) dX11_holds_0 ?_
  refine zv_istore_np (L' := [(2, iv 0), (0, rn w p0), (1, iv p1)]) (by rfl) dX11_holds_1 (by decide) rfl ?_
  refine zv_rload_n dX11_holds_2 1 rfl ?_
  refine zg_RX11_86 dX11_holds_3 hp0 ?_
  refine zv_iload_n dX11_holds_6 2 rfl ?_
  refine zv_iald dX11_holds_7 (zta_11_26 hT hp0) (ztl_11_26 hT hp0) (by decide) ?_
  refine zv_istore_n (i := 3) (by rfl) dX11_holds_8 (fun x1 => [(3, iv x1), (2, iv 0), (0, rn w p0), (1, iv p1)]) (by decide) (fun _ => rfl) (fun x1 => ?_)
  refine zv_join2 246 (fun x24 M25 => [(0, rn w p0), (2, iv x24)]) (fun x24 M25 => []) (fun x24 M25 => M25) (zv_sub (L' := [(2, iv 0), (3, iv x1), (0, rn w p0), (1, iv p1)]) [1, 0, 2, 3] rfl (vl_X11_holds_9 hw p0 p1 hp0 _ (fun _ _ h => h) 0 x1 M0)) (fun x24 M25 => ?_)
  refine zv_iload_n dX11_holds_246 1 rfl ?_
  refine zv_if_eq (tgt := 259) dX11_holds_247 (by decide) ?_ ?_
  · refine zv_iconst (z := 1) dX11_holds_259 ?_
    refine zv_goto (tgt := 264) dX11_holds_260 (by decide) ?_
    exact zv_ret (fun h => h) (zv_zrB (by decide) dX11_holds_264)
  refine zv_rload_n dX11_holds_250 0 rfl ?_
  refine zg_RX11_121 dX11_holds_251 hp0 ?_
  refine zv_iconst (z := 0) dX11_holds_254 ?_
  refine zv_zald dX11_holds_255 (zta_11_47 hT hp0) (ztl_11_47 hT hp0) (by decide) ?_
  refine zv_if_eq (tgt := 263) dX11_holds_256 (by decide) ?_ ?_
  · refine zv_iconst (z := 0) dX11_holds_263 ?_
    exact zv_ret (fun h => h) (zv_zrB (by decide) dX11_holds_264)
  refine zv_iconst (z := 1) dX11_holds_259 ?_
  refine zv_goto (tgt := 264) dX11_holds_260 (by decide) ?_
  exact zv_ret (fun h => h) (zv_zrB (by decide) dX11_holds_264)
def fb_X11_first_2 (k : zK)  (l0 : Nat) (l1 : Int) (l2 : Int) (y3 : Int) (M0 : zM) : Option ((Int × zM) ⊕ ((Int × zM) ⊕ (zM × Int))) :=
  zgd (0 ≤ (0 : Int) ∧ (0 : Int) < 2) (zbr y3 (M0 (zfr k l0 21) (Int.toNat 0)) (M0 (zfr k l0 21) (Int.toNat 0) ≤ y3) (some (.inr (.inr (M0, l2)))) (zgd (0 ≤ y3 ∧ y3 < 80) (zbr (M0 (zfr k l0 22) y3.toNat) l1 (¬ M0 (zfr k l0 22) y3.toNat = l1) (zlt (y3 + 1) (fun x1 => some (.inl (x1, M0)))) (zbd (f_X11_holds k l0 y3 M0) (fun M3 v2 => zbr v2 0 (v2 = 0) (zlt (y3 + 1) (fun x4 => some (.inl (x4, M3)))) (some (.inr (.inl (y3, M3)))))))))
def f_X11_first (k : zK)  (p0 : Nat) (p1 : Int) (p2 : Int) (M0 : zM) : Option (zM × Int) :=
  zsp2 (zw2 (fb_X11_first_2 k p0 p1 p2) zfu 0 M0) (fun r => some (r)) (fun x5 M6 => zgd (0 ≤ x5 ∧ x5 < 80) (some (M6, M6 (zfr k p0 23) x5.toNat)))
theorem vl_X11_first_2 {κ : zC} {w : zW} (hw : zWk w)  (l0 : Nat) (l1 : Int) (l2 : Int) (g0 : ztag w.1 l0 = 12)  (E : ((Int × zM) ⊕ (zM × Int)) → Prop) (hX : ∀ (u3 : Int) (M1 : zM), E (.inl (u3, M1)) → zB cX11_first RX11 4 (some .int) κ w (0, 0, 1) 30 [(0, rn w l0), (3, iv u3)] [] M1) (hR : ∀ r, E (.inr r) → zRt κ w (0, 0, 1) 1 r) (y3 : Int) (M0 : zM) :
    zV cX11_first RX11 4 (some .int) κ w (0, 0, 1) 2 [(3, iv y3), (0, rn w l0), (1, iv l1), (2, iv l2)] [] M0 (zw2 (fb_X11_first_2 w.1 l0 l1 l2) zfu y3 M0) E := by
  have hT := hw.1
  refine zv_loop2 (fun y3 M0 => [(3, iv y3), (0, rn w l0), (1, iv l1), (2, iv l2)]) (fun y3 M0 => M0) (fun y3 M0 => ?_) y3 M0
  unfold fb_X11_first_2
  refine zv_iload_n dX11_first_2 0 rfl ?_
  refine zv_rload_n dX11_first_3 1 rfl ?_
  refine zg_RX11_71 dX11_first_4 g0 ?_
  refine zv_iconst (z := 0) dX11_first_7 ?_
  refine zv_iald dX11_first_8 (zta_11_21 hT g0) (ztl_11_21 hT g0) (by decide) ?_
  refine zv_icmp_ge (tgt := 43) dX11_first_9 (by decide) ?_ ?_
  · refine zv_iload_n dX11_first_43 3 rfl ?_
    exact zv_ret (fun h => hR _ h) (zv_iret dX11_first_44)
  refine zv_rload_n dX11_first_12 1 rfl ?_
  refine zg_RX11_74 dX11_first_13 g0 ?_
  refine zv_iload_n dX11_first_16 0 rfl ?_
  refine zv_iald dX11_first_17 (zta_11_22 hT g0) (ztl_11_22 hT g0) (by decide) ?_
  refine zv_iload_n dX11_first_18 2 rfl ?_
  refine zv_icmp_ne (tgt := 37) dX11_first_19 (by decide) ?_ ?_
  · refine zv_iinc dX11_first_37 0 rfl (fun x1 => [(3, iv x1), (0, rn w l0), (1, iv l1), (2, iv l2)]) (by decide) (fun _ => rfl) (fun x1 => ?_)
    refine zv_goto (tgt := 2) dX11_first_40 (by decide) ?_
    exact zv_sub (L' := [(3, iv x1), (0, rn w l0), (1, iv l1), (2, iv l2)]) [0, 1, 2, 3] rfl (zv_exit (fun h => h))
  refine zv_rload_n dX11_first_22 1 rfl ?_
  refine zv_iload_n dX11_first_23 0 rfl ?_
  refine (zv_callVi [iv y3] (c_X11_holds κ.2.1 hw l0 y3 M0 g0) zmd_X11_holds zwI_X11_holds zwS_X11_holds zwM_RX11_323 zcd_11 g0 rfl (by decide) rfl (Nat.le_of_ble_eq_true rfl) dX11_first_24 (fun M3 v2 _ => ?_))
  refine zv_if_eq (tgt := 37) dX11_first_27 (by decide) ?_ ?_
  · refine zv_iinc dX11_first_37 0 rfl (fun x4 => [(3, iv x4), (0, rn w l0), (1, iv l1), (2, iv l2)]) (by decide) (fun _ => rfl) (fun x4 => ?_)
    refine zv_goto (tgt := 2) dX11_first_40 (by decide) ?_
    exact zv_sub (L' := [(3, iv x4), (0, rn w l0), (1, iv l1), (2, iv l2)]) [0, 1, 2, 3] rfl (zv_exit (fun h => h))
  exact zv_sub (L' := [(0, rn w l0), (3, iv y3)]) [1, 0] rfl (zv_exit (fun h => hX _ _ h))
theorem c_X11_first (l : Launch) {w : zW} (hw : zWk w)  (p0 : Nat) (p1 : Int) (p2 : Int) (M0 : zM) (hp0 : ztag w.1 p0 = 12) : zCn l yX11_first cX11_first 4 (some .int) (1) 1 w [rn w p0, iv p1, iv p2] M0 (f_X11_first w.1 p0 p1 p2 M0) := by
  have hT := hw.1
  refine zCn_of (own := RX11) (by decide) rfl hw (Nat.le_of_ble_eq_true rfl) [(0, rn w p0), (1, iv p1), (2, iv p2)] rfl ?_
  intro κ hl
  subst hl
  unfold f_X11_first
  refine zv_iconst (z := 0) dX11_first_0 ?_
  refine zv_istore_np (L' := [(3, iv 0), (0, rn w p0), (1, iv p1), (2, iv p2)]) (by rfl) dX11_first_1 (by decide) rfl ?_
  refine zv_joinS2 (fun r => r) 30 (fun x5 M6 => [(0, rn w p0), (3, iv x5)]) (fun x5 M6 => []) (fun x5 M6 => M6) (zv_sub (L' := [(3, iv 0), (0, rn w p0), (1, iv p1), (2, iv p2)]) [0, 1, 2, 3] rfl (vl_X11_first_2 hw p0 p1 p2 hp0 _ (fun _ _ h => h) (fun _ h => ((fun h => h)) h) 0 M0)) (fun x5 M6 => ?_)
  refine zv_rload_n dX11_first_30 0 rfl ?_
  refine zg_RX11_77 dX11_first_31 hp0 ?_
  refine zv_iload_n dX11_first_34 1 rfl ?_
  refine zv_iald dX11_first_35 (zta_11_23 hT hp0) (ztl_11_23 hT hp0) (by decide) ?_
  exact zv_ret (fun h => h) (zv_iret dX11_first_36)
def f_X11_by (k : zK)  (p0 : Nat) (p1 : Int) (p2 : Int) (p3 : Int) (M0 : zM) : Option (zM × Int) :=
  zsp0 (zbr p1 2 (¬ p1 = 2) (some (.inl ())) (zgd (0 ≤ p2 ∧ p2 < 256) (zbr (M0 (zfr k p0 55) p2.toNat) 0 (¬ M0 (zfr k p0 55) p2.toNat = 0) (some (.inl ())) (some (.inr (M0, 0)))))) (fun r => some r) (zb1 (f_X11_asked k p0 p2 p3 M0) (fun M1 => zb1 (zbr p1 4 (¬ p1 = 4) (some (0)) (some (100))) (fun x2 => zbd (f_X11_first k p0 p1 x2 M1) (fun M4 v3 => some (M4, v3)))))
theorem c_X11_by (l : Launch) {w : zW} (hw : zWk w)  (p0 : Nat) (p1 : Int) (p2 : Int) (p3 : Int) (M0 : zM) (hp0 : ztag w.1 p0 = 12) : zCn l yX11_by cX11_by 4 (some .int) (2) 1 w [rn w p0, iv p1, iv p2, iv p3] M0 (f_X11_by w.1 p0 p1 p2 p3 M0) := by
  have hT := hw.1
  refine zCn_of (own := RX11) (by decide) rfl hw (Nat.le_of_ble_eq_true rfl) [(0, rn w p0), (1, iv p1), (2, iv p2), (3, iv p3)] rfl ?_
  intro κ hl
  subst hl
  unfold f_X11_by
  refine zv_iload_n dX11_by_0 1 rfl ?_
  refine zv_iconst (z := 2) dX11_by_1 ?_
  refine zv_joinS0 (fun r => r) 16 ([(0, rn w p0), (1, iv p1), (2, iv p2), (3, iv p3)]) ([]) (M0) ?_ (?_)
  · refine zv_icmp_ne (tgt := 16) dX11_by_2 (by decide) ?_ ?_
    · exact zv_sub (L' := [(0, rn w p0), (1, iv p1), (2, iv p2), (3, iv p3)]) [0, 1, 2, 3] rfl (zv_exit (fun h => h))
    refine zv_rload_n dX11_by_5 0 rfl ?_
    refine zg_RX11_139 dX11_by_6 hp0 ?_
    refine zv_iload_n dX11_by_9 2 rfl ?_
    refine zv_zald dX11_by_10 (zta_11_55 hT hp0) (ztl_11_55 hT hp0) (by decide) ?_
    refine zv_if_ne (tgt := 16) dX11_by_11 (by decide) ?_ ?_
    · exact zv_sub (L' := [(0, rn w p0), (1, iv p1), (2, iv p2), (3, iv p3)]) [0, 1, 2, 3] rfl (zv_exit (fun h => h))
    refine zv_iconst (z := 0) dX11_by_14 ?_
    exact zv_ret (fun h => h) (zv_iret dX11_by_15)
  refine zv_rload_n dX11_by_16 0 rfl ?_
  refine zv_iload_n dX11_by_17 2 rfl ?_
  refine zv_iload_n dX11_by_18 3 rfl ?_
  refine zv_vc (zv_callVv [iv p2, iv p3] (c_X11_asked κ.2.1 hw p0 p2 p3 M0 hp0) zmd_X11_asked zwI_X11_asked zwS_X11_asked zwM_RX11_359 zcd_11 hp0 rfl (by decide) rfl (Nat.le_of_ble_eq_true rfl) dX11_by_19 (fun M1 _ _ => ?_))
  refine zv_rload_n dX11_by_22 0 rfl ?_
  refine zv_iload_n dX11_by_23 1 rfl ?_
  refine zv_iload_n dX11_by_24 1 rfl ?_
  refine zv_iconst (z := 4) dX11_by_25 ?_
  refine zv_join1 35 (fun x2 => []) (fun x2 => [iv x2, iv p1, rn w p0]) (fun x2 => M1) ?_ (fun x2 => ?_)
  · refine zv_icmp_ne (tgt := 34) dX11_by_26 (by decide) ?_ ?_
    · refine zv_iconst (z := 0) dX11_by_34 ?_
      exact zv_sub (L' := []) [] rfl (zv_exit (fun h => h))
    refine zv_bipush (z := 100) dX11_by_29 (by decide) ?_
    refine zv_goto (tgt := 35) dX11_by_31 (by decide) ?_
    exact zv_sub (L' := []) [] rfl (zv_exit (fun h => h))
  refine (zv_callVi [iv p1, iv x2] (c_X11_first κ.2.1 hw p0 p1 x2 M1 hp0) zmd_X11_first zwI_X11_first zwS_X11_first zwM_RX11_344 zcd_11 hp0 rfl (by decide) rfl (Nat.le_of_ble_eq_true rfl) dX11_by_35 (fun M4 v3 _ => ?_))
  exact zv_ret (fun h => h) (zv_iret dX11_by_38)
def f_X11_beside (k : zK)  (p0 : Int) (p1 : Int) (M0 : zM) : Option Int :=
  zbr p1 0 (¬ p1 = 0) (zbr p1 1 (¬ p1 = 1) (zbr p1 2 (¬ p1 = 2) (zbr p0 240 (240 ≤ p0) (some (-1)) (some (p0 + 16))) (zbr p0 15 (p0 ≤ 15) (some (-1)) (some (p0 - 16)))) (zgd (0 ≤ p0 ∧ p0 ≤ 2147483647) (zbr (p0 % 16) 15 (15 ≤ p0 % 16) (some (-1)) (some (p0 + 1))))) (zgd (0 ≤ p0 ∧ p0 ≤ 2147483647) (zbr (p0 % 16) 0 (p0 % 16 ≤ 0) (some (-1)) (some (p0 - 1))))
theorem c_X11_beside (l : Launch) {w : zW} (hw : zWk w)  (p0 : Int) (p1 : Int) (M0 : zM)  : zCn l yX11_beside cX11_beside 2 (some .int) (0) 1 w [iv p0, iv p1] M0 ((f_X11_beside w.1 p0 p1 M0).map fun v => (M0, v)) := by
  have hT := hw.1
  refine zCn_ofP (own := RX11) (by decide) rfl hw (Nat.le_of_ble_eq_true rfl) [(0, iv p0), (1, iv p1)] rfl ?_
  intro κ hl
  subst hl
  unfold f_X11_beside
  refine zv_iload_n dX11_beside_0 1 rfl ?_
  refine zv_if_ne (tgt := 19) dX11_beside_1 (by decide) ?_ ?_
  · refine zv_iload_n dX11_beside_19 1 rfl ?_
    refine zv_iconst (z := 1) dX11_beside_20 ?_
    refine zv_icmp_ne (tgt := 41) dX11_beside_21 (by decide) ?_ ?_
    · refine zv_iload_n dX11_beside_41 1 rfl ?_
      refine zv_iconst (z := 2) dX11_beside_42 ?_
      refine zv_icmp_ne (tgt := 61) dX11_beside_43 (by decide) ?_ ?_
      · refine zv_iload_n dX11_beside_61 0 rfl ?_
        refine zv_sipush (z := 240) dX11_beside_62 (by decide) ?_
        refine zv_icmp_ge (tgt := 75) dX11_beside_65 (by decide) ?_ ?_
        · refine zv_iconst (z := (-1)) dX11_beside_75 ?_
          exact zv_ret (fun h => h) (zv_iret dX11_beside_76)
        refine zv_iload_n dX11_beside_68 0 rfl ?_
        refine zv_bipush (z := 16) dX11_beside_69 (by decide) ?_
        refine zv_iadd dX11_beside_71 ?_
        refine zv_goto (tgt := 76) dX11_beside_72 (by decide) ?_
        exact zv_ret (fun h => h) (zv_iret dX11_beside_76)
      refine zv_iload_n dX11_beside_46 0 rfl ?_
      refine zv_bipush (z := 15) dX11_beside_47 (by decide) ?_
      refine zv_icmp_le (tgt := 59) dX11_beside_49 (by decide) ?_ ?_
      · refine zv_iconst (z := (-1)) dX11_beside_59 ?_
        exact zv_ret (fun h => h) (zv_iret dX11_beside_60)
      refine zv_iload_n dX11_beside_52 0 rfl ?_
      refine zv_bipush (z := 16) dX11_beside_53 (by decide) ?_
      refine zv_isub dX11_beside_55 ?_
      refine zv_goto (tgt := 60) dX11_beside_56 (by decide) ?_
      exact zv_ret (fun h => h) (zv_iret dX11_beside_60)
    refine zv_iload_n dX11_beside_24 0 rfl ?_
    refine zv_bipush (z := 16) dX11_beside_25 (by decide) ?_
    refine zv_iremc (by decide) dX11_beside_27 ?_
    refine zv_bipush (z := 15) dX11_beside_28 (by decide) ?_
    refine zv_icmp_ge (tgt := 39) dX11_beside_30 (by decide) ?_ ?_
    · refine zv_iconst (z := (-1)) dX11_beside_39 ?_
      exact zv_ret (fun h => h) (zv_iret dX11_beside_40)
    refine zv_iload_n dX11_beside_33 0 rfl ?_
    refine zv_iconst (z := 1) dX11_beside_34 ?_
    refine zv_iadd dX11_beside_35 ?_
    refine zv_goto (tgt := 40) dX11_beside_36 (by decide) ?_
    exact zv_ret (fun h => h) (zv_iret dX11_beside_40)
  refine zv_iload_n dX11_beside_4 0 rfl ?_
  refine zv_bipush (z := 16) dX11_beside_5 (by decide) ?_
  refine zv_iremc (by decide) dX11_beside_7 ?_
  refine zv_if_le (tgt := 17) dX11_beside_8 (by decide) ?_ ?_
  · refine zv_iconst (z := (-1)) dX11_beside_17 ?_
    exact zv_ret (fun h => h) (zv_iret dX11_beside_18)
  refine zv_iload_n dX11_beside_11 0 rfl ?_
  refine zv_iconst (z := 1) dX11_beside_12 ?_
  refine zv_isub dX11_beside_13 ?_
  refine zv_goto (tgt := 18) dX11_beside_14 (by decide) ?_
  exact zv_ret (fun h => h) (zv_iret dX11_beside_18)
def f_X11_heldTo99 (k : zK)  (p0 : Int) (M0 : zM) : Option Int :=
  zbr p0 99 (p0 ≤ 99) (some p0) (some 99)
theorem c_X11_heldTo99 (l : Launch) {w : zW} (hw : zWk w)  (p0 : Int) (M0 : zM)  : zCn l yX11_heldTo99 cX11_heldTo99 1 (some .int) (0) 1 w [iv p0] M0 ((f_X11_heldTo99 w.1 p0 M0).map fun v => (M0, v)) := by
  have hT := hw.1
  refine zCn_ofP (own := RX11) (by decide) rfl hw (Nat.le_of_ble_eq_true rfl) [(0, iv p0)] rfl ?_
  intro κ hl
  subst hl
  unfold f_X11_heldTo99
  refine zv_iload_n dX11_heldTo99_0 0 rfl ?_
  refine zv_bipush (z := 99) dX11_heldTo99_1 (by decide) ?_
  refine zv_icmp_le (tgt := 11) dX11_heldTo99_3 (by decide) ?_ ?_
  · refine zv_iload_n dX11_heldTo99_11 0 rfl ?_
    exact zv_ret (fun h => h) (zv_iret dX11_heldTo99_12)
  refine zv_bipush (z := 99) dX11_heldTo99_6 (by decide) ?_
  refine zv_goto (tgt := 12) dX11_heldTo99_8 (by decide) ?_
  exact zv_ret (fun h => h) (zv_iret dX11_heldTo99_12)
def f_X11_highOf (k : zK)  (p0 : Nat) (p1 : Int) (M0 : zM) : Option Int :=
  zgd (0 ≤ p1 ∧ p1 < 1024) (zgd (0 ≤ p1 ∧ p1 < 256) (zb1 (f_X11_heldTo99 k ((M0 (zfr k p0 6) p1.toNat) + (M0 (zfr k p0 50) p1.toNat)) M0) (fun v1 => some v1)))
theorem c_X11_highOf (l : Launch) {w : zW} (hw : zWk w)  (p0 : Nat) (p1 : Int) (M0 : zM) (hp0 : ztag w.1 p0 = 12) : zCn l yX11_highOf cX11_highOf 2 (some .int) (1) 1 w [rn w p0, iv p1] M0 ((f_X11_highOf w.1 p0 p1 M0).map fun v => (M0, v)) := by
  have hT := hw.1
  refine zCn_ofP (own := RX11) (by decide) rfl hw (Nat.le_of_ble_eq_true rfl) [(0, rn w p0), (1, iv p1)] rfl ?_
  intro κ hl
  subst hl
  unfold f_X11_highOf
  refine zv_rload_n dX11_highOf_0 0 rfl ?_
  refine zg_RX11_28 dX11_highOf_1 hp0 ?_
  refine zv_iload_n dX11_highOf_4 1 rfl ?_
  refine zv_iald dX11_highOf_5 (zta_11_6 hT hp0) (ztl_11_6 hT hp0) (by decide) ?_
  refine zv_rload_n dX11_highOf_6 0 rfl ?_
  refine zg_RX11_124 dX11_highOf_7 hp0 ?_
  refine zv_iload_n dX11_highOf_10 1 rfl ?_
  refine zv_iald dX11_highOf_11 (zta_11_50 hT hp0) (ztl_11_50 hT hp0) (by decide) ?_
  refine zv_iadd dX11_highOf_12 ?_
  refine zv_pc (zv_callSi [iv ((M0 (zfr w.1 p0 6) p1.toNat) + (M0 (zfr w.1 p0 50) p1.toNat))] (c_X11_heldTo99 κ.2.1 hw ((M0 (zfr w.1 p0 6) p1.toNat) + (M0 (zfr w.1 p0 50) p1.toNat)) M0 ) zmd_X11_heldTo99 zwT_X11_heldTo99 zwM_RX11_341 rfl (by decide) rfl (Nat.le_of_ble_eq_true rfl) dX11_highOf_13 (fun mh2 v1 h2 => ?_))
  obtain rfl := zpuE h2
  exact zv_ret (fun h => h) (zv_iret dX11_highOf_16)
def f_X11_lowOf (k : zK)  (p0 : Nat) (p1 : Int) (M0 : zM) : Option Int :=
  zgd (0 ≤ p1 ∧ p1 < 1024) (zgd (0 ≤ p1 ∧ p1 < 256) (zb1 (f_X11_heldTo99 k ((M0 (zfr k p0 5) p1.toNat) + (M0 (zfr k p0 50) p1.toNat)) M0) (fun v1 => some v1)))
theorem c_X11_lowOf (l : Launch) {w : zW} (hw : zWk w)  (p0 : Nat) (p1 : Int) (M0 : zM) (hp0 : ztag w.1 p0 = 12) : zCn l yX11_lowOf cX11_lowOf 2 (some .int) (1) 1 w [rn w p0, iv p1] M0 ((f_X11_lowOf w.1 p0 p1 M0).map fun v => (M0, v)) := by
  have hT := hw.1
  refine zCn_ofP (own := RX11) (by decide) rfl hw (Nat.le_of_ble_eq_true rfl) [(0, rn w p0), (1, iv p1)] rfl ?_
  intro κ hl
  subst hl
  unfold f_X11_lowOf
  refine zv_rload_n dX11_lowOf_0 0 rfl ?_
  refine zg_RX11_25 dX11_lowOf_1 hp0 ?_
  refine zv_iload_n dX11_lowOf_4 1 rfl ?_
  refine zv_iald dX11_lowOf_5 (zta_11_5 hT hp0) (ztl_11_5 hT hp0) (by decide) ?_
  refine zv_rload_n dX11_lowOf_6 0 rfl ?_
  refine zg_RX11_124 dX11_lowOf_7 hp0 ?_
  refine zv_iload_n dX11_lowOf_10 1 rfl ?_
  refine zv_iald dX11_lowOf_11 (zta_11_50 hT hp0) (ztl_11_50 hT hp0) (by decide) ?_
  refine zv_iadd dX11_lowOf_12 ?_
  refine zv_pc (zv_callSi [iv ((M0 (zfr w.1 p0 5) p1.toNat) + (M0 (zfr w.1 p0 50) p1.toNat))] (c_X11_heldTo99 κ.2.1 hw ((M0 (zfr w.1 p0 5) p1.toNat) + (M0 (zfr w.1 p0 50) p1.toNat)) M0 ) zmd_X11_heldTo99 zwT_X11_heldTo99 zwM_RX11_341 rfl (by decide) rfl (Nat.le_of_ble_eq_true rfl) dX11_lowOf_13 (fun mh2 v1 h2 => ?_))
  obtain rfl := zpuE h2
  exact zv_ret (fun h => h) (zv_iret dX11_lowOf_16)
def f_X11_within (k : zK)  (p0 : Int) (p1 : Int) (p2 : Int) (M0 : zM) : Option Int :=
  zbr p0 p1 (p0 < p1) (some 0) (zbr p0 p2 (p2 < p0) (some 0) (some 1))
theorem c_X11_within (l : Launch) {w : zW} (hw : zWk w)  (p0 : Int) (p1 : Int) (p2 : Int) (M0 : zM)  : zCn l yX11_within cX11_within 3 (some .boolean) (0) 1 w [iv p0, iv p1, iv p2] M0 ((f_X11_within w.1 p0 p1 p2 M0).map fun v => (M0, v)) := by
  have hT := hw.1
  refine zCn_ofP (own := RX11) (by decide) rfl hw (Nat.le_of_ble_eq_true rfl) [(0, iv p0), (1, iv p1), (2, iv p2)] rfl ?_
  intro κ hl
  subst hl
  unfold f_X11_within
  refine zv_iload_n dX11_within_0 0 rfl ?_
  refine zv_iload_n dX11_within_1 1 rfl ?_
  refine zv_icmp_lt (tgt := 14) dX11_within_2 (by decide) ?_ ?_
  · refine zv_iconst (z := 0) dX11_within_14 ?_
    exact zv_ret (fun h => h) (zv_zrB (by decide) dX11_within_15)
  refine zv_iload_n dX11_within_5 0 rfl ?_
  refine zv_iload_n dX11_within_6 2 rfl ?_
  refine zv_icmp_gt (tgt := 14) dX11_within_7 (by decide) ?_ ?_
  · refine zv_iconst (z := 0) dX11_within_14 ?_
    exact zv_ret (fun h => h) (zv_zrB (by decide) dX11_within_15)
  refine zv_iconst (z := 1) dX11_within_10 ?_
  refine zv_goto (tgt := 15) dX11_within_11 (by decide) ?_
  exact zv_ret (fun h => h) (zv_zrB (by decide) dX11_within_15)
def fb_X11_findGround_11 (k : zK)  (l0 : Nat) (l1 : Int) (y2 : Int) (M0 : zM) : Option ((Int × zM) ⊕ (zM)) :=
  zbr y2 7 (7 ≤ y2) (some (.inr M0)) (zgd (0 ≤ y2 ∧ y2 < 7) (zlt (zst M0 (zfr k l0 46) y2.toNat (0)) (fun M1 => zlt (y2 + 1) (fun x2 => some (.inl (x2, M1))))))
def fb_X11_findGround_2 (k : zK)  (l0 : Nat) (y1 : Int) (M0 : zM) : Option ((Int × zM) ⊕ (zM)) :=
  zbr y1 256 (256 ≤ y1) (some (.inr M0)) (zb1 (zw2 (fb_X11_findGround_11 k l0 y1) zfu 0 M0) (fun M3 => zgd (0 ≤ y1 ∧ y1 ≤ 2147483647) (zgd (0 ≤ (0 : Int) ∧ (0 : Int) < 7) (zlt (zst M3 (zfr k l0 46) (Int.toNat 0) (y1 % 16)) (fun M4 => zgd (0 ≤ y1 ∧ y1 ≤ 2147483647) (zgd (0 ≤ (1 : Int) ∧ (1 : Int) < 7) (zlt (zst M4 (zfr k l0 46) (Int.toNat 1) (y1 / 16)) (fun M5 => zbd (f_X11_first k l0 1 0 M5) (fun M7 v6 => zgd (0 ≤ y1 ∧ y1 < 256) (zlt (zst M7 (zfr k l0 50) y1.toNat (v6)) (fun M8 => zb1 (f_X11_lowOf k l0 y1 M8) (fun v9 => zb1 (f_X11_highOf k l0 y1 M8) (fun v11 => zgd (0 ≤ y1 ∧ y1 < 256) (zlt (zst M8 (zfr k l0 51) y1.toNat (v9 + v11)) (fun M13 => zlt (y1 + 1) (fun x14 => some (.inl (x14, M13))))))))))))))))))
def fb_X11_findGround_117 (k : zK)  (l0 : Nat) (l1 : Int) (y2 : Int) (M0 : zM) : Option ((Int × zM) ⊕ (zM)) :=
  zbr y2 4 (4 ≤ y2) (some (.inr M0)) (zb1 (f_X11_beside k l1 y2 M0) (fun v19 => zbr v19 0 (v19 < 0) (zlt (y2 + 1) (fun x21 => some (.inl (x21, M0)))) (zgd (0 ≤ v19 ∧ v19 < 256) (zgd (0 ≤ l1 ∧ l1 < 256) (zbr (M0 (zfr k l0 51) v19.toNat) (M0 (zfr k l0 51) l1.toNat) (M0 (zfr k l0 51) v19.toNat < M0 (zfr k l0 51) l1.toNat) (zgd (0 ≤ l1 ∧ l1 < 256) (zsp1 (zbr (M0 (zfr k l0 52) l1.toNat) 0 (M0 (zfr k l0 52) l1.toNat < 0) (some (.inl y2)) (zgd (0 ≤ v19 ∧ v19 < 256) (zgd (0 ≤ l1 ∧ l1 < 256) (zgd (0 ≤ M0 (zfr k l0 52) l1.toNat ∧ M0 (zfr k l0 52) l1.toNat < 256) (zbr (M0 (zfr k l0 51) v19.toNat) (M0 (zfr k l0 51) (M0 (zfr k l0 52) l1.toNat).toNat) (M0 (zfr k l0 51) v19.toNat < M0 (zfr k l0 51) (M0 (zfr k l0 52) l1.toNat).toNat) (some (.inl y2)) (zgd (0 ≤ v19 ∧ v19 < 256) (zgd (0 ≤ l1 ∧ l1 < 256) (zgd (0 ≤ M0 (zfr k l0 52) l1.toNat ∧ M0 (zfr k l0 52) l1.toNat < 256) (zbr (M0 (zfr k l0 51) v19.toNat) (M0 (zfr k l0 51) (M0 (zfr k l0 52) l1.toNat).toNat) (¬ M0 (zfr k l0 51) v19.toNat = M0 (zfr k l0 51) (M0 (zfr k l0 52) l1.toNat).toNat) (zlt (y2 + 1) (fun x22 => some (.inr (.inl (x22, M0))))) (zgd (0 ≤ l1 ∧ l1 < 256) (zbr v19 (M0 (zfr k l0 52) l1.toNat) (M0 (zfr k l0 52) l1.toNat ≤ v19) (zlt (y2 + 1) (fun x23 => some (.inr (.inl (x23, M0))))) (some (.inl y2))))))))))))) (fun r => some r) (fun x24 => zgd (0 ≤ l1 ∧ l1 < 256) (zlt (zst M0 (zfr k l0 52) l1.toNat (v19)) (fun M25 => zlt (x24 + 1) (fun x26 => some (.inl (x26, M25)))))))) (zlt (y2 + 1) (fun x27 => some (.inl (x27, M0)))))))))
def fb_X11_findGround_224 (k : zK)  (l0 : Nat) (l1 : Int) (y2 : Int) (M0 : zM) : Option ((Int × zM) ⊕ (zM)) :=
  zbr y2 9 (9 ≤ y2) (some (.inr M0)) (zgd (0 ≤ l1 ∧ l1 ≤ 2147483647) (zgd (0 ≤ y2 ∧ y2 ≤ 2147483647) (zlt (((l1 % 16) + (y2 % 3)) - 1) (fun x29 => zgd (0 ≤ l1 ∧ l1 ≤ 2147483647) (zgd (0 ≤ y2 ∧ y2 ≤ 2147483647) (zlt (((l1 / 16) + (y2 / 3)) - 1) (fun x30 => zb1 (f_X11_within k x29 0 15 M0) (fun v31 => zbr v31 0 (v31 = 0) (zlt (y2 + 1) (fun x33 => some (.inl (x33, M0)))) (zb1 (f_X11_within k x30 0 15 M0) (fun v34 => zbr v34 0 (v34 = 0) (zlt (y2 + 1) (fun x36 => some (.inl (x36, M0)))) (zgd (0 ≤ (16 * x30) + x29 ∧ (16 * x30) + x29 < 256) (zgd (0 ≤ l1 ∧ l1 < 256) (zbr (M0 (zfr k l0 51) ((16 * x30) + x29).toNat) (M0 (zfr k l0 51) l1.toNat) (M0 (zfr k l0 51) ((16 * x30) + x29).toNat ≤ M0 (zfr k l0 51) l1.toNat) (zlt (y2 + 1) (fun x37 => some (.inl (x37, M0)))) (zgd (0 ≤ l1 ∧ l1 < 256) (zgd (0 ≤ l1 ∧ l1 < 256) (zlt (zst M0 (zfr k l0 54) l1.toNat ((M0 (zfr k l0 54) l1.toNat) + 1)) (fun M38 => zlt (y2 + 1) (fun x39 => some (.inl (x39, M38))))))))))))))))))))
def fb_X11_findGround_87 (k : zK)  (l0 : Nat) (y1 : Int) (M0 : zM) : Option ((Int × zM) ⊕ (zM)) :=
  zbr y1 256 (256 ≤ y1) (some (.inr M0)) (zgd (0 ≤ y1 ∧ y1 < 256) (zlt (zst M0 (zfr k l0 52) y1.toNat ((-1))) (fun M16 => zgd (0 ≤ y1 ∧ y1 < 256) (zlt (zst M16 (zfr k l0 53) y1.toNat (0)) (fun M17 => zgd (0 ≤ y1 ∧ y1 < 256) (zlt (zst M17 (zfr k l0 54) y1.toNat (0)) (fun M18 => zb1 (zw2 (fb_X11_findGround_117 k l0 y1) zfu 0 M18) (fun M28 => zb1 (zw2 (fb_X11_findGround_224 k l0 y1) zfu 0 M28) (fun M40 => zlt (y1 + 1) (fun x41 => some (.inl (x41, M40))))))))))))
def fb_X11_findGround_328 (k : zK)  (l0 : Nat) (l1 : Int) (y2 : Int) (M0 : zM) : Option ((Int × zM) ⊕ (zM)) :=
  zbr y2 0 (y2 < 0) (some (.inr M0)) (zgd (0 ≤ y2 ∧ y2 < 256) (zb1 (zbr (M0 (zfr k l0 53) y2.toNat) 99 (99 ≤ M0 (zfr k l0 53) y2.toNat) (some (M0)) (zgd (0 ≤ y2 ∧ y2 < 256) (zgd (0 ≤ y2 ∧ y2 < 256) (zlt (zst M0 (zfr k l0 53) y2.toNat ((M0 (zfr k l0 53) y2.toNat) + 1)) (fun M43 => some (M43)))))) (fun M44 => zgd (0 ≤ y2 ∧ y2 < 256) (zlt (M44 (zfr k l0 52) y2.toNat) (fun x45 => some (.inl (x45, M44)))))))
def fb_X11_findGround_319 (k : zK)  (l0 : Nat) (y1 : Int) (M0 : zM) : Option ((Int × zM) ⊕ (zM)) :=
  zbr y1 256 (256 ≤ y1) (some (.inr M0)) (zb1 (zw2 (fb_X11_findGround_328 k l0 y1) zfu y1 M0) (fun M46 => zlt (y1 + 1) (fun x47 => some (.inl (x47, M46)))))
def f_X11_findGround (k : zK)  (p0 : Nat) (M0 : zM) : Option zM :=
  zb1 (zw2 (fb_X11_findGround_2 k p0) zfu 0 M0) (fun M15 => zb1 (zw2 (fb_X11_findGround_87 k p0) zfu 0 M15) (fun M42 => zb1 (zw2 (fb_X11_findGround_319 k p0) zfu 0 M42) (fun M48 => some M48)))
theorem vl_X11_findGround_11 {κ : zC} {w : zW} (hw : zWk w)  (l0 : Nat) (l1 : Int) (g0 : ztag w.1 l0 = 12)  (E : (zM) → Prop) (hX : ∀  (M1 : zM), E M1 → zB cX11_findGround RX11 5 none κ w (0, 0, 2) 30 [(0, rn w l0), (1, iv l1)] [] M1)  (y2 : Int) (M0 : zM) :
    zV cX11_findGround RX11 5 none κ w (0, 0, 2) 11 [(2, iv y2), (0, rn w l0), (1, iv l1)] [] M0 (zw2 (fb_X11_findGround_11 w.1 l0 l1) zfu y2 M0) E := by
  have hT := hw.1
  refine zv_loop2 (fun y2 M0 => [(2, iv y2), (0, rn w l0), (1, iv l1)]) (fun y2 M0 => M0) (fun y2 M0 => ?_) y2 M0
  unfold fb_X11_findGround_11
  refine zv_iload_n dX11_findGround_11 0 rfl ?_
  refine zv_bipush (z := 7) dX11_findGround_12 (by decide) ?_
  refine zv_icmp_ge (tgt := 30) dX11_findGround_14 (by decide) ?_ ?_
  · exact zv_sub (L' := [(0, rn w l0), (1, iv l1)]) [1, 2] rfl (zv_exit (fun h => hX _ h))
  refine zv_rload_n dX11_findGround_17 1 rfl ?_
  refine zg_RX11_118 dX11_findGround_18 g0 ?_
  refine zv_iload_n dX11_findGround_21 0 rfl ?_
  refine zv_iconst (z := 0) dX11_findGround_22 ?_
  refine zv_iast dX11_findGround_23 (zta_11_46 hT g0) (ztl_11_46 hT g0) (by decide) (fun M1 => ?_)
  refine zv_iinc dX11_findGround_24 0 rfl (fun x2 => [(2, iv x2), (0, rn w l0), (1, iv l1)]) (by decide) (fun _ => rfl) (fun x2 => ?_)
  refine zv_goto (tgt := 11) dX11_findGround_27 (by decide) ?_
  exact zv_sub (L' := [(2, iv x2), (0, rn w l0), (1, iv l1)]) [0, 1, 2] rfl (zv_exit (fun h => h))
theorem vl_X11_findGround_2 {κ : zC} {w : zW} (hw : zWk w)  (l0 : Nat) (g0 : ztag w.1 l0 = 12)  (E : (zM) → Prop) (hX : ∀  (M1 : zM), E M1 → zB cX11_findGround RX11 5 none κ w (0, 0, 2) 85 [(0, rn w l0)] [] M1)  (y1 : Int) (M0 : zM) :
    zV cX11_findGround RX11 5 none κ w (0, 0, 2) 2 [(1, iv y1), (0, rn w l0)] [] M0 (zw2 (fb_X11_findGround_2 w.1 l0) zfu y1 M0) E := by
  have hT := hw.1
  refine zv_loop2 (fun y1 M0 => [(1, iv y1), (0, rn w l0)]) (fun y1 M0 => M0) (fun y1 M0 => ?_) y1 M0
  unfold fb_X11_findGround_2
  refine zv_iload_n dX11_findGround_2 0 rfl ?_
  refine zv_sipush (z := 256) dX11_findGround_3 (by decide) ?_
  refine zv_icmp_ge (tgt := 85) dX11_findGround_6 (by decide) ?_ ?_
  · exact zv_sub (L' := [(0, rn w l0)]) [1] rfl (zv_exit (fun h => hX _ h))
  refine zv_iconst (z := 0) dX11_findGround_9 ?_
  refine zv_istore_np (L' := [(2, iv 0), (1, iv y1), (0, rn w l0)]) (by rfl) dX11_findGround_10 (by decide) rfl ?_
  refine zv_join1 30 (fun M3 => [(0, rn w l0), (1, iv y1)]) (fun M3 => []) (fun M3 => M3) (zv_sub (L' := [(2, iv 0), (0, rn w l0), (1, iv y1)]) [0, 2, 1] rfl (vl_X11_findGround_11 hw l0 y1 g0 _ (fun _ h => h) 0 M0)) (fun M3 => ?_)
  refine zv_rload_n dX11_findGround_30 0 rfl ?_
  refine zg_RX11_118 dX11_findGround_31 g0 ?_
  refine zv_iconst (z := 0) dX11_findGround_34 ?_
  refine zv_iload_n dX11_findGround_35 1 rfl ?_
  refine zv_bipush (z := 16) dX11_findGround_36 (by decide) ?_
  refine zv_iremc (by decide) dX11_findGround_38 ?_
  refine zv_iast dX11_findGround_39 (zta_11_46 hT g0) (ztl_11_46 hT g0) (by decide) (fun M4 => ?_)
  refine zv_rload_n dX11_findGround_40 0 rfl ?_
  refine zg_RX11_118 dX11_findGround_41 g0 ?_
  refine zv_iconst (z := 1) dX11_findGround_44 ?_
  refine zv_iload_n dX11_findGround_45 1 rfl ?_
  refine zv_bipush (z := 16) dX11_findGround_46 (by decide) ?_
  refine zv_idivc (by decide) dX11_findGround_48 ?_
  refine zv_iast dX11_findGround_49 (zta_11_46 hT g0) (ztl_11_46 hT g0) (by decide) (fun M5 => ?_)
  refine zv_rload_n dX11_findGround_50 0 rfl ?_
  refine zg_RX11_124 dX11_findGround_51 g0 ?_
  refine zv_iload_n dX11_findGround_54 1 rfl ?_
  refine zv_rload_n dX11_findGround_55 0 rfl ?_
  refine zv_iconst (z := 1) dX11_findGround_56 ?_
  refine zv_iconst (z := 0) dX11_findGround_57 ?_
  refine (zv_callVi [iv 1, iv 0] (c_X11_first κ.2.1 hw l0 1 0 M5 g0) zmd_X11_first zwI_X11_first zwS_X11_first zwM_RX11_344 zcd_11 g0 rfl (by decide) rfl (Nat.le_of_ble_eq_true rfl) dX11_findGround_58 (fun M7 v6 _ => ?_))
  refine zv_iast dX11_findGround_61 (zta_11_50 hT g0) (ztl_11_50 hT g0) (by decide) (fun M8 => ?_)
  refine zv_rload_n dX11_findGround_62 0 rfl ?_
  refine zg_RX11_127 dX11_findGround_63 g0 ?_
  refine zv_iload_n dX11_findGround_66 1 rfl ?_
  refine zv_rload_n dX11_findGround_67 0 rfl ?_
  refine zv_iload_n dX11_findGround_68 1 rfl ?_
  refine zv_pc (zv_callVi [iv y1] (c_X11_lowOf κ.2.1 hw l0 y1 M8 g0) zmd_X11_lowOf zwI_X11_lowOf zwS_X11_lowOf zwM_RX11_347 zcd_11 g0 rfl (by decide) rfl (Nat.le_of_ble_eq_true rfl) dX11_findGround_69 (fun mh10 v9 h10 => ?_))
  obtain rfl := zpuE h10
  refine zv_rload_n dX11_findGround_72 0 rfl ?_
  refine zv_iload_n dX11_findGround_73 1 rfl ?_
  refine zv_pc (zv_callVi [iv y1] (c_X11_highOf κ.2.1 hw l0 y1 M8 g0) zmd_X11_highOf zwI_X11_highOf zwS_X11_highOf zwM_RX11_350 zcd_11 g0 rfl (by decide) rfl (Nat.le_of_ble_eq_true rfl) dX11_findGround_74 (fun mh12 v11 h12 => ?_))
  obtain rfl := zpuE h12
  refine zv_iadd dX11_findGround_77 ?_
  refine zv_iast dX11_findGround_78 (zta_11_51 hT g0) (ztl_11_51 hT g0) (by decide) (fun M13 => ?_)
  refine zv_iinc dX11_findGround_79 1 rfl (fun x14 => [(1, iv x14), (0, rn w l0)]) (by decide) (fun _ => rfl) (fun x14 => ?_)
  refine zv_goto (tgt := 2) dX11_findGround_82 (by decide) ?_
  exact zv_sub (L' := [(1, iv x14), (0, rn w l0)]) [0, 1] rfl (zv_exit (fun h => h))
set_option maxRecDepth 20000 in
theorem vl_X11_findGround_117 {κ : zC} {w : zW} (hw : zWk w)  (l0 : Nat) (l1 : Int) (g0 : ztag w.1 l0 = 12)  (E : (zM) → Prop) (hX : ∀  (M1 : zM), E M1 → zB cX11_findGround RX11 5 none κ w (0, 0, 2) 222 [(0, rn w l0), (1, iv l1)] [] M1)  (y2 : Int) (M0 : zM) :
    zV cX11_findGround RX11 5 none κ w (0, 0, 2) 117 [(2, iv y2), (0, rn w l0), (1, iv l1)] [] M0 (zw2 (fb_X11_findGround_117 w.1 l0 l1) zfu y2 M0) E := by
  have hT := hw.1
  refine zv_loop2 (fun y2 M0 => [(2, iv y2), (0, rn w l0), (1, iv l1)]) (fun y2 M0 => M0) (fun y2 M0 => ?_) y2 M0
  unfold fb_X11_findGround_117
  refine zv_iload_n dX11_findGround_117 0 rfl ?_
  refine zv_iconst (z := 4) dX11_findGround_118 ?_
  refine zv_icmp_ge (tgt := 222) dX11_findGround_119 (by decide) ?_ ?_
  · exact zv_sub (L' := [(0, rn w l0), (1, iv l1)]) [1, 2] rfl (zv_exit (fun h => hX _ h))
  refine zv_iload_n dX11_findGround_122 2 rfl ?_
  refine zv_iload_n dX11_findGround_123 0 rfl ?_
  refine zv_pc (zv_callSi [iv l1, iv y2] (c_X11_beside κ.2.1 hw l1 y2 M0 ) zmd_X11_beside zwT_X11_beside zwM_RX11_353 rfl (by decide) rfl (Nat.le_of_ble_eq_true rfl) dX11_findGround_124 (fun mh20 v19 h20 => ?_))
  obtain rfl := zpuE h20
  refine zv_istore_np (L' := [(3, iv v19), (2, iv y2), (0, rn w l0), (1, iv l1)]) (by rfl) dX11_findGround_127 (by decide) rfl ?_
  refine zv_iload_n dX11_findGround_128 0 rfl ?_
  refine zv_if_lt (tgt := 216) dX11_findGround_129 (by decide) ?_ ?_
  · refine zv_iinc dX11_findGround_216 1 rfl (fun x21 => [(2, iv x21), (3, iv v19), (0, rn w l0), (1, iv l1)]) (by decide) (fun _ => rfl) (fun x21 => ?_)
    refine zv_goto (tgt := 117) dX11_findGround_219 (by decide) ?_
    exact zv_sub (L' := [(2, iv x21), (0, rn w l0), (1, iv l1)]) [0, 2, 3] rfl (zv_exit (fun h => h))
  refine zv_rload_n dX11_findGround_132 2 rfl ?_
  refine zg_RX11_127 dX11_findGround_133 g0 ?_
  refine zv_iload_n dX11_findGround_136 0 rfl ?_
  refine zv_iald dX11_findGround_137 (zta_11_51 hT g0) (ztl_11_51 hT g0) (by decide) ?_
  refine zv_rload_n dX11_findGround_138 2 rfl ?_
  refine zg_RX11_127 dX11_findGround_139 g0 ?_
  refine zv_iload_n dX11_findGround_142 3 rfl ?_
  refine zv_iald dX11_findGround_143 (zta_11_51 hT g0) (ztl_11_51 hT g0) (by decide) ?_
  refine zv_icmp_lt (tgt := 150) dX11_findGround_144 (by decide) ?_ ?_
  · refine zv_rload_n dX11_findGround_150 2 rfl ?_
    refine zg_RX11_130 dX11_findGround_151 g0 ?_
    refine zv_iload_n dX11_findGround_154 3 rfl ?_
    refine zv_iald dX11_findGround_155 (zta_11_52 hT g0) (ztl_11_52 hT g0) (by decide) ?_
    refine zv_joinS1 (fun r => r) 209 (fun x24 => [(2, iv x24), (3, iv v19), (0, rn w l0), (1, iv l1)]) (fun x24 => []) (fun x24 => M0) ?_ (fun x24 => ?_)
    · refine zv_if_lt (tgt := 209) dX11_findGround_156 (by decide) ?_ ?_
      · exact zv_sub (L' := [(2, iv y2), (3, iv v19), (0, rn w l0), (1, iv l1)]) [1, 0, 2, 3] rfl (zv_exit (fun h => h))
      refine zv_rload_n dX11_findGround_159 2 rfl ?_
      refine zg_RX11_127 dX11_findGround_160 g0 ?_
      refine zv_iload_n dX11_findGround_163 0 rfl ?_
      refine zv_iald dX11_findGround_164 (zta_11_51 hT g0) (ztl_11_51 hT g0) (by decide) ?_
      refine zv_rload_n dX11_findGround_165 2 rfl ?_
      refine zg_RX11_127 dX11_findGround_166 g0 ?_
      refine zv_rload_n dX11_findGround_169 2 rfl ?_
      refine zg_RX11_130 dX11_findGround_170 g0 ?_
      refine zv_iload_n dX11_findGround_173 3 rfl ?_
      refine zv_iald dX11_findGround_174 (zta_11_52 hT g0) (ztl_11_52 hT g0) (by decide) ?_
      refine zv_iald dX11_findGround_175 (zta_11_51 hT g0) (ztl_11_51 hT g0) (by decide) ?_
      refine zv_icmp_lt (tgt := 209) dX11_findGround_176 (by decide) ?_ ?_
      · exact zv_sub (L' := [(2, iv y2), (3, iv v19), (0, rn w l0), (1, iv l1)]) [1, 0, 2, 3] rfl (zv_exit (fun h => h))
      refine zv_rload_n dX11_findGround_179 2 rfl ?_
      refine zg_RX11_127 dX11_findGround_180 g0 ?_
      refine zv_iload_n dX11_findGround_183 0 rfl ?_
      refine zv_iald dX11_findGround_184 (zta_11_51 hT g0) (ztl_11_51 hT g0) (by decide) ?_
      refine zv_rload_n dX11_findGround_185 2 rfl ?_
      refine zg_RX11_127 dX11_findGround_186 g0 ?_
      refine zv_rload_n dX11_findGround_189 2 rfl ?_
      refine zg_RX11_130 dX11_findGround_190 g0 ?_
      refine zv_iload_n dX11_findGround_193 3 rfl ?_
      refine zv_iald dX11_findGround_194 (zta_11_52 hT g0) (ztl_11_52 hT g0) (by decide) ?_
      refine zv_iald dX11_findGround_195 (zta_11_51 hT g0) (ztl_11_51 hT g0) (by decide) ?_
      refine zv_icmp_ne (tgt := 216) dX11_findGround_196 (by decide) ?_ ?_
      · refine zv_iinc dX11_findGround_216 1 rfl (fun x22 => [(2, iv x22), (3, iv v19), (0, rn w l0), (1, iv l1)]) (by decide) (fun _ => rfl) (fun x22 => ?_)
        refine zv_goto (tgt := 117) dX11_findGround_219 (by decide) ?_
        exact zv_sub (L' := [(2, iv x22), (0, rn w l0), (1, iv l1)]) [0, 2, 3] rfl (zv_exit (fun h => h))
      refine zv_iload_n dX11_findGround_199 0 rfl ?_
      refine zv_rload_n dX11_findGround_200 2 rfl ?_
      refine zg_RX11_130 dX11_findGround_201 g0 ?_
      refine zv_iload_n dX11_findGround_204 3 rfl ?_
      refine zv_iald dX11_findGround_205 (zta_11_52 hT g0) (ztl_11_52 hT g0) (by decide) ?_
      refine zv_icmp_ge (tgt := 216) dX11_findGround_206 (by decide) ?_ ?_
      · refine zv_iinc dX11_findGround_216 1 rfl (fun x23 => [(2, iv x23), (3, iv v19), (0, rn w l0), (1, iv l1)]) (by decide) (fun _ => rfl) (fun x23 => ?_)
        refine zv_goto (tgt := 117) dX11_findGround_219 (by decide) ?_
        exact zv_sub (L' := [(2, iv x23), (0, rn w l0), (1, iv l1)]) [0, 2, 3] rfl (zv_exit (fun h => h))
      exact zv_sub (L' := [(2, iv y2), (3, iv v19), (0, rn w l0), (1, iv l1)]) [1, 0, 2, 3] rfl (zv_exit (fun h => h))
    refine zv_rload_n dX11_findGround_209 2 rfl ?_
    refine zg_RX11_130 dX11_findGround_210 g0 ?_
    refine zv_iload_n dX11_findGround_213 3 rfl ?_
    refine zv_iload_n dX11_findGround_214 1 rfl ?_
    refine zv_iast dX11_findGround_215 (zta_11_52 hT g0) (ztl_11_52 hT g0) (by decide) (fun M25 => ?_)
    refine zv_iinc dX11_findGround_216 0 rfl (fun x26 => [(2, iv x26), (3, iv v19), (0, rn w l0), (1, iv l1)]) (by decide) (fun _ => rfl) (fun x26 => ?_)
    refine zv_goto (tgt := 117) dX11_findGround_219 (by decide) ?_
    exact zv_sub (L' := [(2, iv x26), (0, rn w l0), (1, iv l1)]) [0, 2, 3] rfl (zv_exit (fun h => h))
  refine zv_goto (tgt := 216) dX11_findGround_147 (by decide) ?_
  refine zv_iinc dX11_findGround_216 1 rfl (fun x27 => [(2, iv x27), (3, iv v19), (0, rn w l0), (1, iv l1)]) (by decide) (fun _ => rfl) (fun x27 => ?_)
  refine zv_goto (tgt := 117) dX11_findGround_219 (by decide) ?_
  exact zv_sub (L' := [(2, iv x27), (0, rn w l0), (1, iv l1)]) [0, 2, 3] rfl (zv_exit (fun h => h))
set_option maxRecDepth 20000 in
theorem vl_X11_findGround_224 {κ : zC} {w : zW} (hw : zWk w)  (l0 : Nat) (l1 : Int) (g0 : ztag w.1 l0 = 12)  (E : (zM) → Prop) (hX : ∀  (M1 : zM), E M1 → zB cX11_findGround RX11 5 none κ w (0, 0, 2) 311 [(0, rn w l0), (1, iv l1)] [] M1)  (y2 : Int) (M0 : zM) :
    zV cX11_findGround RX11 5 none κ w (0, 0, 2) 224 [(2, iv y2), (0, rn w l0), (1, iv l1)] [] M0 (zw2 (fb_X11_findGround_224 w.1 l0 l1) zfu y2 M0) E := by
  have hT := hw.1
  refine zv_loop2 (fun y2 M0 => [(2, iv y2), (0, rn w l0), (1, iv l1)]) (fun y2 M0 => M0) (fun y2 M0 => ?_) y2 M0
  unfold fb_X11_findGround_224
  refine zv_iload_n dX11_findGround_224 0 rfl ?_
  refine zv_bipush (z := 9) dX11_findGround_225 (by decide) ?_
  refine zv_icmp_ge (tgt := 311) dX11_findGround_227 (by decide) ?_ ?_
  · exact zv_sub (L' := [(0, rn w l0), (1, iv l1)]) [1, 2] rfl (zv_exit (fun h => hX _ h))
  refine zv_iload_n dX11_findGround_230 2 rfl ?_
  refine zv_bipush (z := 16) dX11_findGround_231 (by decide) ?_
  refine zv_iremc (by decide) dX11_findGround_233 ?_
  refine zv_iload_n dX11_findGround_234 0 rfl ?_
  refine zv_iconst (z := 3) dX11_findGround_235 ?_
  refine zv_iremc (by decide) dX11_findGround_236 ?_
  refine zv_iadd dX11_findGround_237 ?_
  refine zv_iconst (z := 1) dX11_findGround_238 ?_
  refine zv_isub dX11_findGround_239 ?_
  refine zv_istore_n (i := 3) (by rfl) dX11_findGround_240 (fun x29 => [(3, iv x29), (2, iv y2), (0, rn w l0), (1, iv l1)]) (by decide) (fun _ => rfl) (fun x29 => ?_)
  refine zv_iload_n dX11_findGround_241 3 rfl ?_
  refine zv_bipush (z := 16) dX11_findGround_242 (by decide) ?_
  refine zv_idivc (by decide) dX11_findGround_244 ?_
  refine zv_iload_n dX11_findGround_245 1 rfl ?_
  refine zv_iconst (z := 3) dX11_findGround_246 ?_
  refine zv_idivc (by decide) dX11_findGround_247 ?_
  refine zv_iadd dX11_findGround_248 ?_
  refine zv_iconst (z := 1) dX11_findGround_249 ?_
  refine zv_isub dX11_findGround_250 ?_
  refine zv_istore dX11_findGround_251 (fun x30 => [(4, iv x30), (3, iv x29), (2, iv y2), (0, rn w l0), (1, iv l1)]) (by decide) (fun _ => rfl) (fun x30 => ?_)
  refine zv_iload_n dX11_findGround_253 1 rfl ?_
  refine zv_iconst (z := 0) dX11_findGround_254 ?_
  refine zv_bipush (z := 15) dX11_findGround_255 (by decide) ?_
  refine zv_pc (zv_callSi [iv x29, iv 0, iv 15] (c_X11_within κ.2.1 hw x29 0 15 M0 ) zmd_X11_within zwT_X11_within zwM_RX11_183 rfl (by decide) rfl (Nat.le_of_ble_eq_true rfl) dX11_findGround_257 (fun mh32 v31 h32 => ?_))
  obtain rfl := zpuE h32
  refine zv_if_eq (tgt := 305) dX11_findGround_260 (by decide) ?_ ?_
  · refine zv_iinc dX11_findGround_305 2 rfl (fun x33 => [(2, iv x33), (4, iv x30), (3, iv x29), (0, rn w l0), (1, iv l1)]) (by decide) (fun _ => rfl) (fun x33 => ?_)
    refine zv_goto (tgt := 224) dX11_findGround_308 (by decide) ?_
    exact zv_sub (L' := [(2, iv x33), (0, rn w l0), (1, iv l1)]) [0, 3, 4] rfl (zv_exit (fun h => h))
  refine zv_iload dX11_findGround_263 0 rfl ?_
  refine zv_iconst (z := 0) dX11_findGround_265 ?_
  refine zv_bipush (z := 15) dX11_findGround_266 (by decide) ?_
  refine zv_pc (zv_callSi [iv x30, iv 0, iv 15] (c_X11_within κ.2.1 hw x30 0 15 M0 ) zmd_X11_within zwT_X11_within zwM_RX11_183 rfl (by decide) rfl (Nat.le_of_ble_eq_true rfl) dX11_findGround_268 (fun mh35 v34 h35 => ?_))
  obtain rfl := zpuE h35
  refine zv_if_eq (tgt := 305) dX11_findGround_271 (by decide) ?_ ?_
  · refine zv_iinc dX11_findGround_305 2 rfl (fun x36 => [(2, iv x36), (4, iv x30), (3, iv x29), (0, rn w l0), (1, iv l1)]) (by decide) (fun _ => rfl) (fun x36 => ?_)
    refine zv_goto (tgt := 224) dX11_findGround_308 (by decide) ?_
    exact zv_sub (L' := [(2, iv x36), (0, rn w l0), (1, iv l1)]) [0, 3, 4] rfl (zv_exit (fun h => h))
  refine zv_rload_n dX11_findGround_274 3 rfl ?_
  refine zg_RX11_127 dX11_findGround_275 g0 ?_
  refine zv_bipush (z := 16) dX11_findGround_278 (by decide) ?_
  refine zv_iload dX11_findGround_280 0 rfl ?_
  refine zv_imul dX11_findGround_282 ?_
  refine zv_iload_n dX11_findGround_283 1 rfl ?_
  refine zv_iadd dX11_findGround_284 ?_
  refine zv_iald dX11_findGround_285 (zta_11_51 hT g0) (ztl_11_51 hT g0) (by decide) ?_
  refine zv_rload_n dX11_findGround_286 3 rfl ?_
  refine zg_RX11_127 dX11_findGround_287 g0 ?_
  refine zv_iload_n dX11_findGround_290 4 rfl ?_
  refine zv_iald dX11_findGround_291 (zta_11_51 hT g0) (ztl_11_51 hT g0) (by decide) ?_
  refine zv_icmp_le (tgt := 305) dX11_findGround_292 (by decide) ?_ ?_
  · refine zv_iinc dX11_findGround_305 2 rfl (fun x37 => [(2, iv x37), (4, iv x30), (3, iv x29), (0, rn w l0), (1, iv l1)]) (by decide) (fun _ => rfl) (fun x37 => ?_)
    refine zv_goto (tgt := 224) dX11_findGround_308 (by decide) ?_
    exact zv_sub (L' := [(2, iv x37), (0, rn w l0), (1, iv l1)]) [0, 3, 4] rfl (zv_exit (fun h => h))
  refine zv_rload_n dX11_findGround_295 3 rfl ?_
  refine zg_RX11_136 dX11_findGround_296 g0 ?_
  refine zv_iload_n dX11_findGround_299 4 rfl ?_
  refine zv_dup2 dX11_findGround_300 rfl rfl ?_
  refine zv_iald dX11_findGround_301 (zta_11_54 hT g0) (ztl_11_54 hT g0) (by decide) ?_
  refine zv_iconst (z := 1) dX11_findGround_302 ?_
  refine zv_iadd dX11_findGround_303 ?_
  refine zv_iast dX11_findGround_304 (zta_11_54 hT g0) (ztl_11_54 hT g0) (by decide) (fun M38 => ?_)
  refine zv_iinc dX11_findGround_305 2 rfl (fun x39 => [(2, iv x39), (4, iv x30), (3, iv x29), (0, rn w l0), (1, iv l1)]) (by decide) (fun _ => rfl) (fun x39 => ?_)
  refine zv_goto (tgt := 224) dX11_findGround_308 (by decide) ?_
  exact zv_sub (L' := [(2, iv x39), (0, rn w l0), (1, iv l1)]) [0, 3, 4] rfl (zv_exit (fun h => h))
theorem vl_X11_findGround_87 {κ : zC} {w : zW} (hw : zWk w)  (l0 : Nat) (g0 : ztag w.1 l0 = 12)  (E : (zM) → Prop) (hX : ∀  (M1 : zM), E M1 → zB cX11_findGround RX11 5 none κ w (0, 0, 2) 317 [(0, rn w l0)] [] M1)  (y1 : Int) (M0 : zM) :
    zV cX11_findGround RX11 5 none κ w (0, 0, 2) 87 [(1, iv y1), (0, rn w l0)] [] M0 (zw2 (fb_X11_findGround_87 w.1 l0) zfu y1 M0) E := by
  have hT := hw.1
  refine zv_loop2 (fun y1 M0 => [(1, iv y1), (0, rn w l0)]) (fun y1 M0 => M0) (fun y1 M0 => ?_) y1 M0
  unfold fb_X11_findGround_87
  refine zv_iload_n dX11_findGround_87 0 rfl ?_
  refine zv_sipush (z := 256) dX11_findGround_88 (by decide) ?_
  refine zv_icmp_ge (tgt := 317) dX11_findGround_91 (by decide) ?_ ?_
  · exact zv_sub (L' := [(0, rn w l0)]) [1] rfl (zv_exit (fun h => hX _ h))
  refine zv_rload_n dX11_findGround_94 1 rfl ?_
  refine zg_RX11_130 dX11_findGround_95 g0 ?_
  refine zv_iload_n dX11_findGround_98 0 rfl ?_
  refine zv_iconst (z := (-1)) dX11_findGround_99 ?_
  refine zv_iast dX11_findGround_100 (zta_11_52 hT g0) (ztl_11_52 hT g0) (by decide) (fun M16 => ?_)
  refine zv_rload_n dX11_findGround_101 1 rfl ?_
  refine zg_RX11_133 dX11_findGround_102 g0 ?_
  refine zv_iload_n dX11_findGround_105 0 rfl ?_
  refine zv_iconst (z := 0) dX11_findGround_106 ?_
  refine zv_iast dX11_findGround_107 (zta_11_53 hT g0) (ztl_11_53 hT g0) (by decide) (fun M17 => ?_)
  refine zv_rload_n dX11_findGround_108 1 rfl ?_
  refine zg_RX11_136 dX11_findGround_109 g0 ?_
  refine zv_iload_n dX11_findGround_112 0 rfl ?_
  refine zv_iconst (z := 0) dX11_findGround_113 ?_
  refine zv_iast dX11_findGround_114 (zta_11_54 hT g0) (ztl_11_54 hT g0) (by decide) (fun M18 => ?_)
  refine zv_iconst (z := 0) dX11_findGround_115 ?_
  refine zv_istore_np (L' := [(2, iv 0), (1, iv y1), (0, rn w l0)]) (by rfl) dX11_findGround_116 (by decide) rfl ?_
  refine zv_join1 222 (fun M28 => [(0, rn w l0), (1, iv y1)]) (fun M28 => []) (fun M28 => M28) (zv_sub (L' := [(2, iv 0), (0, rn w l0), (1, iv y1)]) [0, 2, 1] rfl (vl_X11_findGround_117 hw l0 y1 g0 _ (fun _ h => h) 0 M18)) (fun M28 => ?_)
  refine zv_iconst (z := 0) dX11_findGround_222 ?_
  refine zv_istore_np (L' := [(2, iv 0), (0, rn w l0), (1, iv y1)]) (by rfl) dX11_findGround_223 (by decide) rfl ?_
  refine zv_join1 311 (fun M40 => [(0, rn w l0), (1, iv y1)]) (fun M40 => []) (fun M40 => M40) (zv_sub (L' := [(2, iv 0), (0, rn w l0), (1, iv y1)]) [0, 1, 2] rfl (vl_X11_findGround_224 hw l0 y1 g0 _ (fun _ h => h) 0 M28)) (fun M40 => ?_)
  refine zv_iinc dX11_findGround_311 1 rfl (fun x41 => [(1, iv x41), (0, rn w l0)]) (by decide) (fun _ => rfl) (fun x41 => ?_)
  refine zv_goto (tgt := 87) dX11_findGround_314 (by decide) ?_
  exact zv_sub (L' := [(1, iv x41), (0, rn w l0)]) [0, 1] rfl (zv_exit (fun h => h))
theorem vl_X11_findGround_328 {κ : zC} {w : zW} (hw : zWk w)  (l0 : Nat) (l1 : Int) (g0 : ztag w.1 l0 = 12)  (E : (zM) → Prop) (hX : ∀  (M1 : zM), E M1 → zB cX11_findGround RX11 5 none κ w (0, 0, 2) 363 [(0, rn w l0), (1, iv l1)] [] M1)  (y2 : Int) (M0 : zM) :
    zV cX11_findGround RX11 5 none κ w (0, 0, 2) 328 [(2, iv y2), (0, rn w l0), (1, iv l1)] [] M0 (zw2 (fb_X11_findGround_328 w.1 l0 l1) zfu y2 M0) E := by
  have hT := hw.1
  refine zv_loop2 (fun y2 M0 => [(2, iv y2), (0, rn w l0), (1, iv l1)]) (fun y2 M0 => M0) (fun y2 M0 => ?_) y2 M0
  unfold fb_X11_findGround_328
  refine zv_iload_n dX11_findGround_328 0 rfl ?_
  refine zv_if_lt (tgt := 363) dX11_findGround_329 (by decide) ?_ ?_
  · exact zv_sub (L' := [(0, rn w l0), (1, iv l1)]) [1, 2] rfl (zv_exit (fun h => hX _ h))
  refine zv_rload_n dX11_findGround_332 1 rfl ?_
  refine zg_RX11_133 dX11_findGround_333 g0 ?_
  refine zv_iload_n dX11_findGround_336 0 rfl ?_
  refine zv_iald dX11_findGround_337 (zta_11_53 hT g0) (ztl_11_53 hT g0) (by decide) ?_
  refine zv_bipush (z := 99) dX11_findGround_338 (by decide) ?_
  refine zv_join1 353 (fun M44 => [(2, iv y2), (0, rn w l0), (1, iv l1)]) (fun M44 => []) (fun M44 => M44) ?_ (fun M44 => ?_)
  · refine zv_icmp_ge (tgt := 353) dX11_findGround_340 (by decide) ?_ ?_
    · exact zv_sub (L' := [(2, iv y2), (0, rn w l0), (1, iv l1)]) [0, 1, 2] rfl (zv_exit (fun h => h))
    refine zv_rload_n dX11_findGround_343 1 rfl ?_
    refine zg_RX11_133 dX11_findGround_344 g0 ?_
    refine zv_iload_n dX11_findGround_347 0 rfl ?_
    refine zv_dup2 dX11_findGround_348 rfl rfl ?_
    refine zv_iald dX11_findGround_349 (zta_11_53 hT g0) (ztl_11_53 hT g0) (by decide) ?_
    refine zv_iconst (z := 1) dX11_findGround_350 ?_
    refine zv_iadd dX11_findGround_351 ?_
    refine zv_iast dX11_findGround_352 (zta_11_53 hT g0) (ztl_11_53 hT g0) (by decide) (fun M43 => ?_)
    exact zv_sub (L' := [(2, iv y2), (0, rn w l0), (1, iv l1)]) [0, 1, 2] rfl (zv_exit (fun h => h))
  refine zv_rload_n dX11_findGround_353 1 rfl ?_
  refine zg_RX11_130 dX11_findGround_354 g0 ?_
  refine zv_iload_n dX11_findGround_357 0 rfl ?_
  refine zv_iald dX11_findGround_358 (zta_11_52 hT g0) (ztl_11_52 hT g0) (by decide) ?_
  refine zv_istore_n (i := 2) (by rfl) dX11_findGround_359 (fun x45 => [(2, iv x45), (0, rn w l0), (1, iv l1)]) (by decide) (fun _ => rfl) (fun x45 => ?_)
  refine zv_goto (tgt := 328) dX11_findGround_360 (by decide) ?_
  exact zv_sub (L' := [(2, iv x45), (0, rn w l0), (1, iv l1)]) [0, 1, 2] rfl (zv_exit (fun h => h))
theorem vl_X11_findGround_319 {κ : zC} {w : zW} (hw : zWk w)  (l0 : Nat) (g0 : ztag w.1 l0 = 12)  (E : (zM) → Prop) (hX : ∀  (M1 : zM), E M1 → zB cX11_findGround RX11 5 none κ w (0, 0, 2) 369 [] [] M1)  (y1 : Int) (M0 : zM) :
    zV cX11_findGround RX11 5 none κ w (0, 0, 2) 319 [(1, iv y1), (0, rn w l0)] [] M0 (zw2 (fb_X11_findGround_319 w.1 l0) zfu y1 M0) E := by
  have hT := hw.1
  refine zv_loop2 (fun y1 M0 => [(1, iv y1), (0, rn w l0)]) (fun y1 M0 => M0) (fun y1 M0 => ?_) y1 M0
  unfold fb_X11_findGround_319
  refine zv_iload_n dX11_findGround_319 0 rfl ?_
  refine zv_sipush (z := 256) dX11_findGround_320 (by decide) ?_
  refine zv_icmp_ge (tgt := 369) dX11_findGround_323 (by decide) ?_ ?_
  · exact zv_sub (L' := []) [] rfl (zv_exit (fun h => hX _ h))
  refine zv_iload_n dX11_findGround_326 0 rfl ?_
  refine zv_istore_np (L' := [(2, iv y1), (1, iv y1), (0, rn w l0)]) (by rfl) dX11_findGround_327 (by decide) rfl ?_
  refine zv_join1 363 (fun M46 => [(0, rn w l0), (1, iv y1)]) (fun M46 => []) (fun M46 => M46) (zv_sub (L' := [(2, iv y1), (0, rn w l0), (1, iv y1)]) [0, 2, 1] rfl (vl_X11_findGround_328 hw l0 y1 g0 _ (fun _ h => h) y1 M0)) (fun M46 => ?_)
  refine zv_iinc dX11_findGround_363 1 rfl (fun x47 => [(1, iv x47), (0, rn w l0)]) (by decide) (fun _ => rfl) (fun x47 => ?_)
  refine zv_goto (tgt := 319) dX11_findGround_366 (by decide) ?_
  exact zv_sub (L' := [(1, iv x47), (0, rn w l0)]) [0, 1] rfl (zv_exit (fun h => h))
theorem c_X11_findGround (l : Launch) {w : zW} (hw : zWk w)  (p0 : Nat) (M0 : zM) (hp0 : ztag w.1 p0 = 12) : zCn l yX11_findGround cX11_findGround 5 none (2) 0 w [rn w p0] M0 ((f_X11_findGround w.1 p0 M0).map fun m => (m, (0 : Int))) := by
  have hT := hw.1
  refine zCn_ofV (own := RX11) (by decide) rfl hw (Nat.le_of_ble_eq_true rfl) [(0, rn w p0)] rfl ?_
  intro κ hl
  subst hl
  unfold f_X11_findGround
  refine zv_iconst (z := 0) dX11_findGround_0 ?_
  refine zv_istore_np (L' := [(1, iv 0), (0, rn w p0)]) (by rfl) dX11_findGround_1 (by decide) rfl ?_
  refine zv_join1 85 (fun M15 => [(0, rn w p0)]) (fun M15 => []) (fun M15 => M15) (zv_sub (L' := [(1, iv 0), (0, rn w p0)]) [0, 1] rfl (vl_X11_findGround_2 hw p0 hp0 _ (fun _ h => h) 0 M0)) (fun M15 => ?_)
  refine zv_iconst (z := 0) dX11_findGround_85 ?_
  refine zv_istore_np (L' := [(1, iv 0), (0, rn w p0)]) (by rfl) dX11_findGround_86 (by decide) rfl ?_
  refine zv_join1 317 (fun M42 => [(0, rn w p0)]) (fun M42 => []) (fun M42 => M42) (zv_sub (L' := [(1, iv 0), (0, rn w p0)]) [0, 1] rfl (vl_X11_findGround_87 hw p0 hp0 _ (fun _ h => h) 0 M15)) (fun M42 => ?_)
  refine zv_iconst (z := 0) dX11_findGround_317 ?_
  refine zv_istore_np (L' := [(1, iv 0), (0, rn w p0)]) (by rfl) dX11_findGround_318 (by decide) rfl ?_
  refine zv_join1 369 (fun M48 => []) (fun M48 => []) (fun M48 => M48) (zv_sub (L' := [(1, iv 0), (0, rn w p0)]) [0, 1] rfl (vl_X11_findGround_319 hw p0 hp0 _ (fun _ h => h) 0 M42)) (fun M48 => ?_)
  exact zv_ret (fun h => h) (zv_vret (v := 0) dX11_findGround_369)
def fb_X11_findSea_4 (k : zK)  (l0 : Nat) (l1 : Int) (M0 : zM) (y2 : Int) (y3 : Int) : Option ((Int × Int) ⊕ (Int)) :=
  zgd (0 ≤ (0 : Int) ∧ (0 : Int) < 2) (zbr y3 (M0 (zfr k l0 21) (Int.toNat 0)) (M0 (zfr k l0 21) (Int.toNat 0) ≤ y3) (some (.inr y2)) (zgd (0 ≤ y3 ∧ y3 < 80) (zbr (M0 (zfr k l0 22) y3.toNat) 0 (¬ M0 (zfr k l0 22) y3.toNat = 0) (zlt (y3 + 1) (fun x1 => some (.inl (y2, x1)))) (zgd (0 ≤ y3 ∧ y3 < 80) (zbr (M0 (zfr k l0 23) y3.toNat) l1 (l1 < M0 (zfr k l0 23) y3.toNat) (zlt (y3 + 1) (fun x2 => some (.inl (y2, x2)))) (zbr y2 0 (y2 < 0) (zlt (y3 + 1) (fun x3 => some (.inl (y3, x3)))) (zgd (0 ≤ y3 ∧ y3 < 80) (zgd (0 ≤ y2 ∧ y2 < 80) (zbr (M0 (zfr k l0 23) y3.toNat) (M0 (zfr k l0 23) y2.toNat) (M0 (zfr k l0 23) y3.toNat < M0 (zfr k l0 23) y2.toNat) (zlt (y3 + 1) (fun x4 => some (.inl (y2, x4)))) (zlt (y3 + 1) (fun x5 => some (.inl (y3, x5)))))))))))))
def f_X11_findSea (k : zK)  (p0 : Nat) (p1 : Int) (M0 : zM) : Option zM :=
  zb1 (zw2 (fb_X11_findSea_4 k p0 p1 M0) zfu (-1) 0) (fun x6 => zb1 (zbr x6 0 (0 ≤ x6) (zgd (0 ≤ x6 ∧ x6 < 80) (some (M0 (zfr k p0 24) x6.toNat))) (some (0))) (fun x7 => zlt (zst M0 p0 48 x7) (fun M8 => zbr x6 0 (0 ≤ x6) (zgd (0 ≤ x6 ∧ x6 < 80) (zlt (zst M8 p0 49 (M8 (zfr k p0 25) x6.toNat)) (fun M9 => some M9))) (zlt (zst M8 p0 49 0) (fun M10 => some M10)))))
theorem vl_X11_findSea_4 {κ : zC} {w : zW} (hw : zWk w)  (l0 : Nat) (l1 : Int) (g0 : ztag w.1 l0 = 12) (M0 : zM) (E : (Int) → Prop) (hX : ∀ (u2 : Int), E u2 → zB cX11_findSea RX11 4 none κ w (0, 0, 0) 60 [(0, rn w l0), (2, iv u2)] [] M0)  (y2 : Int) (y3 : Int) :
    zV cX11_findSea RX11 4 none κ w (0, 0, 0) 4 [(2, iv y2), (3, iv y3), (0, rn w l0), (1, iv l1)] [] M0 (zw2 (fb_X11_findSea_4 w.1 l0 l1 M0) zfu y2 y3) E := by
  have hT := hw.1
  refine zv_loop2 (fun y2 y3 => [(2, iv y2), (3, iv y3), (0, rn w l0), (1, iv l1)]) (fun y2 y3 => M0) (fun y2 y3 => ?_) y2 y3
  unfold fb_X11_findSea_4
  refine zv_iload_n dX11_findSea_4 1 rfl ?_
  refine zv_rload_n dX11_findSea_5 2 rfl ?_
  refine zg_RX11_71 dX11_findSea_6 g0 ?_
  refine zv_iconst (z := 0) dX11_findSea_9 ?_
  refine zv_iald dX11_findSea_10 (zta_11_21 hT g0) (ztl_11_21 hT g0) (by decide) ?_
  refine zv_icmp_ge (tgt := 60) dX11_findSea_11 (by decide) ?_ ?_
  · exact zv_sub (L' := [(0, rn w l0), (2, iv y2)]) [2, 0] rfl (zv_exit (fun h => hX _ h))
  refine zv_rload_n dX11_findSea_14 2 rfl ?_
  refine zg_RX11_74 dX11_findSea_15 g0 ?_
  refine zv_iload_n dX11_findSea_18 1 rfl ?_
  refine zv_iald dX11_findSea_19 (zta_11_22 hT g0) (ztl_11_22 hT g0) (by decide) ?_
  refine zv_if_ne (tgt := 54) dX11_findSea_20 (by decide) ?_ ?_
  · refine zv_iinc dX11_findSea_54 1 rfl (fun x1 => [(3, iv x1), (2, iv y2), (0, rn w l0), (1, iv l1)]) (by decide) (fun _ => rfl) (fun x1 => ?_)
    refine zv_goto (tgt := 4) dX11_findSea_57 (by decide) ?_
    exact zv_sub (L' := [(2, iv y2), (3, iv x1), (0, rn w l0), (1, iv l1)]) [1, 0, 2, 3] rfl (zv_exit (fun h => h))
  refine zv_rload_n dX11_findSea_23 2 rfl ?_
  refine zg_RX11_77 dX11_findSea_24 g0 ?_
  refine zv_iload_n dX11_findSea_27 1 rfl ?_
  refine zv_iald dX11_findSea_28 (zta_11_23 hT g0) (ztl_11_23 hT g0) (by decide) ?_
  refine zv_iload_n dX11_findSea_29 3 rfl ?_
  refine zv_icmp_gt (tgt := 54) dX11_findSea_30 (by decide) ?_ ?_
  · refine zv_iinc dX11_findSea_54 1 rfl (fun x2 => [(3, iv x2), (2, iv y2), (0, rn w l0), (1, iv l1)]) (by decide) (fun _ => rfl) (fun x2 => ?_)
    refine zv_goto (tgt := 4) dX11_findSea_57 (by decide) ?_
    exact zv_sub (L' := [(2, iv y2), (3, iv x2), (0, rn w l0), (1, iv l1)]) [1, 0, 2, 3] rfl (zv_exit (fun h => h))
  refine zv_iload_n dX11_findSea_33 0 rfl ?_
  refine zv_if_lt (tgt := 52) dX11_findSea_34 (by decide) ?_ ?_
  · refine zv_iload_n dX11_findSea_52 1 rfl ?_
    refine zv_istore_np (L' := [(2, iv y3), (3, iv y3), (0, rn w l0), (1, iv l1)]) (by rfl) dX11_findSea_53 (by decide) rfl ?_
    refine zv_iinc dX11_findSea_54 1 rfl (fun x3 => [(3, iv x3), (2, iv y3), (0, rn w l0), (1, iv l1)]) (by decide) (fun _ => rfl) (fun x3 => ?_)
    refine zv_goto (tgt := 4) dX11_findSea_57 (by decide) ?_
    exact zv_sub (L' := [(2, iv y3), (3, iv x3), (0, rn w l0), (1, iv l1)]) [1, 0, 2, 3] rfl (zv_exit (fun h => h))
  refine zv_rload_n dX11_findSea_37 2 rfl ?_
  refine zg_RX11_77 dX11_findSea_38 g0 ?_
  refine zv_iload_n dX11_findSea_41 1 rfl ?_
  refine zv_iald dX11_findSea_42 (zta_11_23 hT g0) (ztl_11_23 hT g0) (by decide) ?_
  refine zv_rload_n dX11_findSea_43 2 rfl ?_
  refine zg_RX11_77 dX11_findSea_44 g0 ?_
  refine zv_iload_n dX11_findSea_47 0 rfl ?_
  refine zv_iald dX11_findSea_48 (zta_11_23 hT g0) (ztl_11_23 hT g0) (by decide) ?_
  refine zv_icmp_lt (tgt := 54) dX11_findSea_49 (by decide) ?_ ?_
  · refine zv_iinc dX11_findSea_54 1 rfl (fun x4 => [(3, iv x4), (2, iv y2), (0, rn w l0), (1, iv l1)]) (by decide) (fun _ => rfl) (fun x4 => ?_)
    refine zv_goto (tgt := 4) dX11_findSea_57 (by decide) ?_
    exact zv_sub (L' := [(2, iv y2), (3, iv x4), (0, rn w l0), (1, iv l1)]) [1, 0, 2, 3] rfl (zv_exit (fun h => h))
  refine zv_iload_n dX11_findSea_52 1 rfl ?_
  refine zv_istore_np (L' := [(2, iv y3), (3, iv y3), (0, rn w l0), (1, iv l1)]) (by rfl) dX11_findSea_53 (by decide) rfl ?_
  refine zv_iinc dX11_findSea_54 1 rfl (fun x5 => [(3, iv x5), (2, iv y3), (0, rn w l0), (1, iv l1)]) (by decide) (fun _ => rfl) (fun x5 => ?_)
  refine zv_goto (tgt := 4) dX11_findSea_57 (by decide) ?_
  exact zv_sub (L' := [(2, iv y3), (3, iv x5), (0, rn w l0), (1, iv l1)]) [1, 0, 2, 3] rfl (zv_exit (fun h => h))
theorem c_X11_findSea (l : Launch) {w : zW} (hw : zWk w)  (p0 : Nat) (p1 : Int) (M0 : zM) (hp0 : ztag w.1 p0 = 12) : zCn l yX11_findSea cX11_findSea 4 none (0) 0 w [rn w p0, iv p1] M0 ((f_X11_findSea w.1 p0 p1 M0).map fun m => (m, (0 : Int))) := by
  have hT := hw.1
  refine zCn_ofV (own := RX11) (by decide) rfl hw (Nat.le_of_ble_eq_true rfl) [(0, rn w p0), (1, iv p1)] rfl ?_
  intro κ hl
  subst hl
  unfold f_X11_findSea
  refine zv_iconst (z := (-1)) dX11_findSea_0 ?_
  refine zv_istore_np (L' := [(2, iv (-1)), (0, rn w p0), (1, iv p1)]) (by rfl) dX11_findSea_1 (by decide) rfl ?_
  refine zv_iconst (z := 0) dX11_findSea_2 ?_
  refine zv_istore_np (L' := [(3, iv 0), (2, iv (-1)), (0, rn w p0), (1, iv p1)]) (by rfl) dX11_findSea_3 (by decide) rfl ?_
  refine zv_join1 60 (fun x6 => [(0, rn w p0), (2, iv x6)]) (fun x6 => []) (fun x6 => M0) (zv_sub (L' := [(2, iv (-1)), (3, iv 0), (0, rn w p0), (1, iv p1)]) [1, 0, 2, 3] rfl (vl_X11_findSea_4 hw p0 p1 hp0 M0 _ (fun _ h => h) (-1) 0)) (fun x6 => ?_)
  refine zv_rload_n dX11_findSea_60 0 rfl ?_
  refine zv_iload_n dX11_findSea_61 1 rfl ?_
  refine zv_join1 75 (fun x7 => [(0, rn w p0), (2, iv x6)]) (fun x7 => [iv x7, rn w p0]) (fun x7 => M0) ?_ (fun x7 => ?_)
  · refine zv_if_ge (tgt := 69) dX11_findSea_62 (by decide) ?_ ?_
    · refine zv_rload_n dX11_findSea_69 0 rfl ?_
      refine zg_RX11_80 dX11_findSea_70 hp0 ?_
      refine zv_iload_n dX11_findSea_73 1 rfl ?_
      refine zv_iald dX11_findSea_74 (zta_11_24 hT hp0) (ztl_11_24 hT hp0) (by decide) ?_
      exact zv_sub (L' := [(0, rn w p0), (2, iv x6)]) [0, 1] rfl (zv_exit (fun h => h))
    refine zv_iconst (z := 0) dX11_findSea_65 ?_
    refine zv_goto (tgt := 75) dX11_findSea_66 (by decide) ?_
    exact zv_sub (L' := [(0, rn w p0), (2, iv x6)]) [0, 1] rfl (zv_exit (fun h => h))
  refine zp_RX11_329 dX11_findSea_75 hp0 (fun M8 => ?_)
  refine zv_rload_n dX11_findSea_78 0 rfl ?_
  refine zv_iload_n dX11_findSea_79 1 rfl ?_
  refine zv_if_ge (tgt := 87) dX11_findSea_80 (by decide) ?_ ?_
  · refine zv_rload_n dX11_findSea_87 0 rfl ?_
    refine zg_RX11_83 dX11_findSea_88 hp0 ?_
    refine zv_iload_n dX11_findSea_91 1 rfl ?_
    refine zv_iald dX11_findSea_92 (zta_11_25 hT hp0) (ztl_11_25 hT hp0) (by decide) ?_
    refine zp_RX11_332 dX11_findSea_93 hp0 (fun M9 => ?_)
    exact zv_ret (fun h => h) (zv_vret (v := 0) dX11_findSea_96)
  refine zv_iconst (z := 0) dX11_findSea_83 ?_
  refine zv_goto (tgt := 93) dX11_findSea_84 (by decide) ?_
  refine zp_RX11_332 dX11_findSea_93 hp0 (fun M10 => ?_)
  exact zv_ret (fun h => h) (zv_vret (v := 0) dX11_findSea_96)
def fb_X11_findLand_9 (k : zK)  (l0 : Nat) (y2 : Int) (y3 : Int) (M0 : zM) : Option ((Int × Int × zM) ⊕ (Int × zM)) :=
  zbr y3 256 (256 ≤ y3) (some (.inr (y2, M0))) (zgd (0 ≤ y3 ∧ y3 < 256) (zb1 (zbr (M0 (zfr k l0 51) y3.toNat) ((M0 l0 48) + (M0 l0 49)) (M0 (zfr k l0 51) y3.toNat ≤ (M0 l0 48) + (M0 l0 49)) (some (0)) (some (1))) (fun x2 => zgd ((x2 = 0 ∨ x2 = 1) ∧ 0 ≤ y3 ∧ y3 < 256) (zlt (zst M0 (zfr k l0 55) y3.toNat (x2)) (fun M3 => zgd (0 ≤ y3 ∧ y3 < 256) (zb1 (zbr (M3 (zfr k l0 55) y3.toNat) 0 (M3 (zfr k l0 55) y3.toNat = 0) (some (0)) (some (99))) (fun x4 => zgd (0 ≤ y3 ∧ y3 < 256) (zlt (zst M3 (zfr k l0 57) y3.toNat (x4)) (fun M5 => zgd (0 ≤ y3 ∧ y3 < 256) (zbr (M5 (zfr k l0 55) y3.toNat) 0 (M5 (zfr k l0 55) y3.toNat = 0) (zgd (0 ≤ y2 ∧ y2 < 256) (zlt (zst M5 (zfr k l0 58) y2.toNat (y3)) (fun M6 => zlt (y2 + 1) (fun x7 => zlt (y3 + 1) (fun x8 => some (.inl (x7, x8, M6))))))) (zlt (y3 + 1) (fun x9 => some (.inl (y2, x9, M5))))))))))))))
def fb_X11_findLand_104 (k : zK)  (l0 : Nat) (l3 : Int) (y2 : Int) (y4 : Int) (M0 : zM) : Option ((Int × Int × zM) ⊕ (Int × zM)) :=
  zbr y4 4 (4 ≤ y4) (some (.inr (y2, M0))) (zgd (0 ≤ l3 ∧ l3 < 256) (zb1 (f_X11_beside k (M0 (zfr k l0 58) l3.toNat) y4 M0) (fun v12 => zbr v12 0 (v12 < 0) (zlt (y4 + 1) (fun x14 => some (.inl (y2, x14, M0)))) (zgd (0 ≤ v12 ∧ v12 < 256) (zbr (M0 (zfr k l0 57) v12.toNat) 99 (99 ≤ M0 (zfr k l0 57) v12.toNat) (zgd (0 ≤ l3 ∧ l3 < 256) (zgd (0 ≤ M0 (zfr k l0 58) l3.toNat ∧ M0 (zfr k l0 58) l3.toNat < 256) (zgd (0 ≤ v12 ∧ v12 < 256) (zlt (zst M0 (zfr k l0 57) v12.toNat ((M0 (zfr k l0 57) (M0 (zfr k l0 58) l3.toNat).toNat) + 1)) (fun M15 => zgd (0 ≤ y2 ∧ y2 < 256) (zlt (zst M15 (zfr k l0 58) y2.toNat (v12)) (fun M16 => zlt (y2 + 1) (fun x17 => zlt (y4 + 1) (fun x18 => some (.inl (x17, x18, M16))))))))))) (zlt (y4 + 1) (fun x19 => some (.inl (y2, x19, M0)))))))))
def fb_X11_findLand_96 (k : zK)  (l0 : Nat) (y2 : Int) (y3 : Int) (M0 : zM) : Option ((Int × Int × zM) ⊕ (zM)) :=
  zbr y3 y2 (y2 ≤ y3) (some (.inr M0)) (zb2 (zw3 (fb_X11_findLand_104 k l0 y3) zfu y2 0 M0) (fun x20 M21 => zlt (y3 + 1) (fun x22 => some (.inl (x20, x22, M21)))))
def f_X11_findLand (k : zK)  (p0 : Nat) (p1 : Int) (M0 : zM) : Option zM :=
  zb1 (f_X11_findSea k p0 p1 M0) (fun M1 => zb2 (zw3 (fb_X11_findLand_9 k p0) zfu 0 0 M1) (fun x10 M11 => zb1 (zw3 (fb_X11_findLand_96 k p0) zfu x10 0 M11) (fun M23 => some M23)))
set_option maxRecDepth 20000 in
theorem vl_X11_findLand_9 {κ : zC} {w : zW} (hw : zWk w)  (l0 : Nat) (g0 : ztag w.1 l0 = 12)  (E : (Int × zM) → Prop) (hX : ∀ (u2 : Int) (M1 : zM), E (u2, M1) → zB cX11_findLand RX11 6 none κ w (0, 0, 1) 94 [(0, rn w l0), (2, iv u2)] [] M1)  (y2 : Int) (y3 : Int) (M0 : zM) :
    zV cX11_findLand RX11 6 none κ w (0, 0, 1) 9 [(2, iv y2), (3, iv y3), (0, rn w l0)] [] M0 (zw3 (fb_X11_findLand_9 w.1 l0) zfu y2 y3 M0) E := by
  have hT := hw.1
  refine zv_loop3 (fun y2 y3 M0 => [(2, iv y2), (3, iv y3), (0, rn w l0)]) (fun y2 y3 M0 => M0) (fun y2 y3 M0 => ?_) y2 y3 M0
  unfold fb_X11_findLand_9
  refine zv_iload_n dX11_findLand_9 1 rfl ?_
  refine zv_sipush (z := 256) dX11_findLand_10 (by decide) ?_
  refine zv_icmp_ge (tgt := 94) dX11_findLand_13 (by decide) ?_ ?_
  · exact zv_sub (L' := [(0, rn w l0), (2, iv y2)]) [2, 0] rfl (zv_exit (fun h => hX _ _ h))
  refine zv_rload_n dX11_findLand_16 2 rfl ?_
  refine zg_RX11_139 dX11_findLand_17 g0 ?_
  refine zv_iload_n dX11_findLand_20 1 rfl ?_
  refine zv_rload_n dX11_findLand_21 2 rfl ?_
  refine zg_RX11_127 dX11_findLand_22 g0 ?_
  refine zv_iload_n dX11_findLand_25 1 rfl ?_
  refine zv_iald dX11_findLand_26 (zta_11_51 hT g0) (ztl_11_51 hT g0) (by decide) ?_
  refine zv_rload_n dX11_findLand_27 2 rfl ?_
  refine zg_RX11_329 dX11_findLand_28 g0 ?_
  refine zv_rload_n dX11_findLand_31 2 rfl ?_
  refine zg_RX11_332 dX11_findLand_32 g0 ?_
  refine zv_iadd dX11_findLand_35 ?_
  refine zv_join1 44 (fun x2 => [(2, iv y2), (3, iv y3), (0, rn w l0)]) (fun x2 => [iv x2, iv y3, rn w (zfr w.1 l0 55)]) (fun x2 => M0) ?_ (fun x2 => ?_)
  · refine zv_icmp_le (tgt := 43) dX11_findLand_36 (by decide) ?_ ?_
    · refine zv_iconst (z := 0) dX11_findLand_43 ?_
      exact zv_sub (L' := [(2, iv y2), (3, iv y3), (0, rn w l0)]) [0, 1, 2] rfl (zv_exit (fun h => h))
    refine zv_iconst (z := 1) dX11_findLand_39 ?_
    refine zv_goto (tgt := 44) dX11_findLand_40 (by decide) ?_
    exact zv_sub (L' := [(2, iv y2), (3, iv y3), (0, rn w l0)]) [0, 1, 2] rfl (zv_exit (fun h => h))
  refine zv_zast dX11_findLand_44 (zta_11_55 hT g0) (ztl_11_55 hT g0) (by decide) (fun M3 => ?_)
  refine zv_rload_n dX11_findLand_45 2 rfl ?_
  refine zg_RX11_145 dX11_findLand_46 g0 ?_
  refine zv_iload_n dX11_findLand_49 1 rfl ?_
  refine zv_rload_n dX11_findLand_50 2 rfl ?_
  refine zg_RX11_139 dX11_findLand_51 g0 ?_
  refine zv_iload_n dX11_findLand_54 1 rfl ?_
  refine zv_zald dX11_findLand_55 (zta_11_55 hT g0) (ztl_11_55 hT g0) (by decide) ?_
  refine zv_join1 65 (fun x4 => [(2, iv y2), (3, iv y3), (0, rn w l0)]) (fun x4 => [iv x4, iv y3, rn w (zfr w.1 l0 57)]) (fun x4 => M3) ?_ (fun x4 => ?_)
  · refine zv_if_eq (tgt := 64) dX11_findLand_56 (by decide) ?_ ?_
    · refine zv_iconst (z := 0) dX11_findLand_64 ?_
      exact zv_sub (L' := [(2, iv y2), (3, iv y3), (0, rn w l0)]) [0, 1, 2] rfl (zv_exit (fun h => h))
    refine zv_bipush (z := 99) dX11_findLand_59 (by decide) ?_
    refine zv_goto (tgt := 65) dX11_findLand_61 (by decide) ?_
    exact zv_sub (L' := [(2, iv y2), (3, iv y3), (0, rn w l0)]) [0, 1, 2] rfl (zv_exit (fun h => h))
  refine zv_iast dX11_findLand_65 (zta_11_57 hT g0) (ztl_11_57 hT g0) (by decide) (fun M5 => ?_)
  refine zv_rload_n dX11_findLand_66 2 rfl ?_
  refine zg_RX11_139 dX11_findLand_67 g0 ?_
  refine zv_iload_n dX11_findLand_70 1 rfl ?_
  refine zv_zald dX11_findLand_71 (zta_11_55 hT g0) (ztl_11_55 hT g0) (by decide) ?_
  refine zv_if_eq (tgt := 78) dX11_findLand_72 (by decide) ?_ ?_
  · refine zv_rload_n dX11_findLand_78 2 rfl ?_
    refine zg_RX11_148 dX11_findLand_79 g0 ?_
    refine zv_iload_n dX11_findLand_82 0 rfl ?_
    refine zv_iload_n dX11_findLand_83 1 rfl ?_
    refine zv_iast dX11_findLand_84 (zta_11_58 hT g0) (ztl_11_58 hT g0) (by decide) (fun M6 => ?_)
    refine zv_iinc dX11_findLand_85 0 rfl (fun x7 => [(2, iv x7), (3, iv y3), (0, rn w l0)]) (by decide) (fun _ => rfl) (fun x7 => ?_)
    refine zv_iinc dX11_findLand_88 1 rfl (fun x8 => [(3, iv x8), (2, iv x7), (0, rn w l0)]) (by decide) (fun _ => rfl) (fun x8 => ?_)
    refine zv_goto (tgt := 9) dX11_findLand_91 (by decide) ?_
    exact zv_sub (L' := [(2, iv x7), (3, iv x8), (0, rn w l0)]) [1, 0, 2] rfl (zv_exit (fun h => h))
  refine zv_goto (tgt := 88) dX11_findLand_75 (by decide) ?_
  refine zv_iinc dX11_findLand_88 1 rfl (fun x9 => [(3, iv x9), (2, iv y2), (0, rn w l0)]) (by decide) (fun _ => rfl) (fun x9 => ?_)
  refine zv_goto (tgt := 9) dX11_findLand_91 (by decide) ?_
  exact zv_sub (L' := [(2, iv y2), (3, iv x9), (0, rn w l0)]) [1, 0, 2] rfl (zv_exit (fun h => h))
theorem vl_X11_findLand_104 {κ : zC} {w : zW} (hw : zWk w)  (l0 : Nat) (l3 : Int) (g0 : ztag w.1 l0 = 12)  (E : (Int × zM) → Prop) (hX : ∀ (u2 : Int) (M1 : zM), E (u2, M1) → zB cX11_findLand RX11 6 none κ w (0, 0, 1) 180 [(0, rn w l0), (2, iv u2), (3, iv l3)] [] M1)  (y2 : Int) (y4 : Int) (M0 : zM) :
    zV cX11_findLand RX11 6 none κ w (0, 0, 1) 104 [(2, iv y2), (4, iv y4), (0, rn w l0), (3, iv l3)] [] M0 (zw3 (fb_X11_findLand_104 w.1 l0 l3) zfu y2 y4 M0) E := by
  have hT := hw.1
  refine zv_loop3 (fun y2 y4 M0 => [(2, iv y2), (4, iv y4), (0, rn w l0), (3, iv l3)]) (fun y2 y4 M0 => M0) (fun y2 y4 M0 => ?_) y2 y4 M0
  unfold fb_X11_findLand_104
  refine zv_iload dX11_findLand_104 1 rfl ?_
  refine zv_iconst (z := 4) dX11_findLand_106 ?_
  refine zv_icmp_ge (tgt := 180) dX11_findLand_107 (by decide) ?_ ?_
  · exact zv_sub (L' := [(0, rn w l0), (2, iv y2), (3, iv l3)]) [2, 0, 3] rfl (zv_exit (fun h => hX _ _ h))
  refine zv_rload_n dX11_findLand_110 2 rfl ?_
  refine zg_RX11_148 dX11_findLand_111 g0 ?_
  refine zv_iload_n dX11_findLand_114 3 rfl ?_
  refine zv_iald dX11_findLand_115 (zta_11_58 hT g0) (ztl_11_58 hT g0) (by decide) ?_
  refine zv_iload dX11_findLand_116 1 rfl ?_
  refine zv_pc (zv_callSi [iv (M0 (zfr w.1 l0 58) l3.toNat), iv y4] (c_X11_beside κ.2.1 hw (M0 (zfr w.1 l0 58) l3.toNat) y4 M0 ) zmd_X11_beside zwT_X11_beside zwM_RX11_353 rfl (by decide) rfl (Nat.le_of_ble_eq_true rfl) dX11_findLand_118 (fun mh13 v12 h13 => ?_))
  obtain rfl := zpuE h13
  refine zv_istore_p (L' := [(5, iv v12), (2, iv y2), (4, iv y4), (0, rn w l0), (3, iv l3)]) dX11_findLand_121 (by decide) rfl ?_
  refine zv_iload dX11_findLand_123 0 rfl ?_
  refine zv_if_lt (tgt := 174) dX11_findLand_125 (by decide) ?_ ?_
  · refine zv_iinc dX11_findLand_174 2 rfl (fun x14 => [(4, iv x14), (5, iv v12), (2, iv y2), (0, rn w l0), (3, iv l3)]) (by decide) (fun _ => rfl) (fun x14 => ?_)
    refine zv_goto (tgt := 104) dX11_findLand_177 (by decide) ?_
    exact zv_sub (L' := [(2, iv y2), (4, iv x14), (0, rn w l0), (3, iv l3)]) [2, 0, 3, 4] rfl (zv_exit (fun h => h))
  refine zv_rload_n dX11_findLand_128 3 rfl ?_
  refine zg_RX11_145 dX11_findLand_129 g0 ?_
  refine zv_iload dX11_findLand_132 0 rfl ?_
  refine zv_iald dX11_findLand_134 (zta_11_57 hT g0) (ztl_11_57 hT g0) (by decide) ?_
  refine zv_bipush (z := 99) dX11_findLand_135 (by decide) ?_
  refine zv_icmp_ge (tgt := 143) dX11_findLand_137 (by decide) ?_ ?_
  · refine zv_rload_n dX11_findLand_143 3 rfl ?_
    refine zg_RX11_145 dX11_findLand_144 g0 ?_
    refine zv_iload dX11_findLand_147 0 rfl ?_
    refine zv_rload_n dX11_findLand_149 3 rfl ?_
    refine zg_RX11_145 dX11_findLand_150 g0 ?_
    refine zv_rload_n dX11_findLand_153 3 rfl ?_
    refine zg_RX11_148 dX11_findLand_154 g0 ?_
    refine zv_iload_n dX11_findLand_157 4 rfl ?_
    refine zv_iald dX11_findLand_158 (zta_11_58 hT g0) (ztl_11_58 hT g0) (by decide) ?_
    refine zv_iald dX11_findLand_159 (zta_11_57 hT g0) (ztl_11_57 hT g0) (by decide) ?_
    refine zv_iconst (z := 1) dX11_findLand_160 ?_
    refine zv_iadd dX11_findLand_161 ?_
    refine zv_iast dX11_findLand_162 (zta_11_57 hT g0) (ztl_11_57 hT g0) (by decide) (fun M15 => ?_)
    refine zv_rload_n dX11_findLand_163 3 rfl ?_
    refine zg_RX11_148 dX11_findLand_164 g0 ?_
    refine zv_iload_n dX11_findLand_167 1 rfl ?_
    refine zv_iload dX11_findLand_168 0 rfl ?_
    refine zv_iast dX11_findLand_170 (zta_11_58 hT g0) (ztl_11_58 hT g0) (by decide) (fun M16 => ?_)
    refine zv_iinc dX11_findLand_171 1 rfl (fun x17 => [(2, iv x17), (5, iv v12), (4, iv y4), (0, rn w l0), (3, iv l3)]) (by decide) (fun _ => rfl) (fun x17 => ?_)
    refine zv_iinc dX11_findLand_174 2 rfl (fun x18 => [(4, iv x18), (2, iv x17), (5, iv v12), (0, rn w l0), (3, iv l3)]) (by decide) (fun _ => rfl) (fun x18 => ?_)
    refine zv_goto (tgt := 104) dX11_findLand_177 (by decide) ?_
    exact zv_sub (L' := [(2, iv x17), (4, iv x18), (0, rn w l0), (3, iv l3)]) [1, 0, 3, 4] rfl (zv_exit (fun h => h))
  refine zv_goto (tgt := 174) dX11_findLand_140 (by decide) ?_
  refine zv_iinc dX11_findLand_174 2 rfl (fun x19 => [(4, iv x19), (5, iv v12), (2, iv y2), (0, rn w l0), (3, iv l3)]) (by decide) (fun _ => rfl) (fun x19 => ?_)
  refine zv_goto (tgt := 104) dX11_findLand_177 (by decide) ?_
  exact zv_sub (L' := [(2, iv y2), (4, iv x19), (0, rn w l0), (3, iv l3)]) [2, 0, 3, 4] rfl (zv_exit (fun h => h))
theorem vl_X11_findLand_96 {κ : zC} {w : zW} (hw : zWk w)  (l0 : Nat) (g0 : ztag w.1 l0 = 12)  (E : (zM) → Prop) (hX : ∀  (M1 : zM), E M1 → zB cX11_findLand RX11 6 none κ w (0, 0, 1) 186 [] [] M1)  (y2 : Int) (y3 : Int) (M0 : zM) :
    zV cX11_findLand RX11 6 none κ w (0, 0, 1) 96 [(2, iv y2), (3, iv y3), (0, rn w l0)] [] M0 (zw3 (fb_X11_findLand_96 w.1 l0) zfu y2 y3 M0) E := by
  have hT := hw.1
  refine zv_loop3 (fun y2 y3 M0 => [(2, iv y2), (3, iv y3), (0, rn w l0)]) (fun y2 y3 M0 => M0) (fun y2 y3 M0 => ?_) y2 y3 M0
  unfold fb_X11_findLand_96
  refine zv_iload_n dX11_findLand_96 1 rfl ?_
  refine zv_iload_n dX11_findLand_97 0 rfl ?_
  refine zv_icmp_ge (tgt := 186) dX11_findLand_98 (by decide) ?_ ?_
  · exact zv_sub (L' := []) [] rfl (zv_exit (fun h => hX _ h))
  refine zv_iconst (z := 0) dX11_findLand_101 ?_
  refine zv_istore_p (L' := [(4, iv 0), (2, iv y2), (3, iv y3), (0, rn w l0)]) dX11_findLand_102 (by decide) rfl ?_
  refine zv_join2 180 (fun x20 M21 => [(0, rn w l0), (2, iv x20), (3, iv y3)]) (fun x20 M21 => []) (fun x20 M21 => M21) (zv_sub (L' := [(2, iv y2), (4, iv 0), (0, rn w l0), (3, iv y3)]) [1, 0, 3, 2] rfl (vl_X11_findLand_104 hw l0 y3 g0 _ (fun _ _ h => h) y2 0 M0)) (fun x20 M21 => ?_)
  refine zv_iinc dX11_findLand_180 2 rfl (fun x22 => [(3, iv x22), (0, rn w l0), (2, iv x20)]) (by decide) (fun _ => rfl) (fun x22 => ?_)
  refine zv_goto (tgt := 96) dX11_findLand_183 (by decide) ?_
  exact zv_sub (L' := [(2, iv x20), (3, iv x22), (0, rn w l0)]) [2, 0, 1] rfl (zv_exit (fun h => h))
theorem c_X11_findLand (l : Launch) {w : zW} (hw : zWk w)  (p0 : Nat) (p1 : Int) (M0 : zM) (hp0 : ztag w.1 p0 = 12) : zCn l yX11_findLand cX11_findLand 6 none (1) 0 w [rn w p0, iv p1] M0 ((f_X11_findLand w.1 p0 p1 M0).map fun m => (m, (0 : Int))) := by
  have hT := hw.1
  refine zCn_ofV (own := RX11) (by decide) rfl hw (Nat.le_of_ble_eq_true rfl) [(0, rn w p0), (1, iv p1)] rfl ?_
  intro κ hl
  subst hl
  unfold f_X11_findLand
  refine zv_rload_n dX11_findLand_0 0 rfl ?_
  refine zv_iload_n dX11_findLand_1 1 rfl ?_
  refine zv_vc (zv_callVv [iv p1] (c_X11_findSea κ.2.1 hw p0 p1 M0 hp0) zmd_X11_findSea zwI_X11_findSea zwS_X11_findSea zwM_RX11_338 zcd_11 hp0 rfl (by decide) rfl (Nat.le_of_ble_eq_true rfl) dX11_findLand_2 (fun M1 _ _ => ?_))
  refine zv_iconst (z := 0) dX11_findLand_5 ?_
  refine zv_istore_np (L' := [(2, iv 0), (0, rn w p0), (1, iv p1)]) (by rfl) dX11_findLand_6 (by decide) rfl ?_
  refine zv_iconst (z := 0) dX11_findLand_7 ?_
  refine zv_istore_np (L' := [(3, iv 0), (2, iv 0), (0, rn w p0), (1, iv p1)]) (by rfl) dX11_findLand_8 (by decide) rfl ?_
  refine zv_join2 94 (fun x10 M11 => [(0, rn w p0), (2, iv x10)]) (fun x10 M11 => []) (fun x10 M11 => M11) (zv_sub (L' := [(2, iv 0), (3, iv 0), (0, rn w p0)]) [1, 0, 2] rfl (vl_X11_findLand_9 hw p0 hp0 _ (fun _ _ h => h) 0 0 M1)) (fun x10 M11 => ?_)
  refine zv_iconst (z := 0) dX11_findLand_94 ?_
  refine zv_istore_np (L' := [(3, iv 0), (0, rn w p0), (2, iv x10)]) (by rfl) dX11_findLand_95 (by decide) rfl ?_
  refine zv_join1 186 (fun M23 => []) (fun M23 => []) (fun M23 => M23) (zv_sub (L' := [(2, iv x10), (3, iv 0), (0, rn w p0)]) [2, 0, 1] rfl (vl_X11_findLand_96 hw p0 hp0 _ (fun _ h => h) x10 0 M11)) (fun M23 => ?_)
  exact zv_ret (fun h => h) (zv_vret (v := 0) dX11_findLand_186)
def f_X11_finds (k : zK)  (p0 : Nat) (p1 : Int) (M0 : zM) : Option zM :=
  zb1 (f_X11_findGround k p0 M0) (fun M1 => zb1 (f_X11_findLand k p0 p1 M1) (fun M2 => some M2))
theorem c_X11_finds (l : Launch) {w : zW} (hw : zWk w)  (p0 : Nat) (p1 : Int) (M0 : zM) (hp0 : ztag w.1 p0 = 12) : zCn l yX11_finds cX11_finds 2 none (3) 0 w [rn w p0, iv p1] M0 ((f_X11_finds w.1 p0 p1 M0).map fun m => (m, (0 : Int))) := by
  have hT := hw.1
  refine zCn_ofV (own := RX11) (by decide) rfl hw (Nat.le_of_ble_eq_true rfl) [(0, rn w p0), (1, iv p1)] rfl ?_
  intro κ hl
  subst hl
  unfold f_X11_finds
  refine zv_rload_n dX11_finds_0 0 rfl ?_
  refine zv_vc (zv_callVv [] (c_X11_findGround κ.2.1 hw p0 M0 hp0) zmd_X11_findGround zwI_X11_findGround zwS_X11_findGround zwM_RX11_362 zcd_11 hp0 rfl (by decide) rfl (Nat.le_of_ble_eq_true rfl) dX11_finds_1 (fun M1 _ _ => ?_))
  refine zv_rload_n dX11_finds_4 0 rfl ?_
  refine zv_iload_n dX11_finds_5 1 rfl ?_
  refine zv_vc (zv_callVv [iv p1] (c_X11_findLand κ.2.1 hw p0 p1 M1 hp0) zmd_X11_findLand zwI_X11_findLand zwS_X11_findLand zwM_RX11_365 zcd_11 hp0 rfl (by decide) rfl (Nat.le_of_ble_eq_true rfl) dX11_finds_6 (fun M2 _ _ => ?_))
  exact zv_ret (fun h => h) (zv_vret (v := 0) dX11_finds_9)
def fb_X11_findLives_7 (k : zK)  (l0 : Nat) (l1 : Int) (y2 : Int) (M0 : zM) : Option ((Int × zM) ⊕ (zM)) :=
  zbr y2 256 (256 ≤ y2) (some (.inr M0)) (zbd (f_X11_by k l0 2 y2 l1 M0) (fun M3 v2 => zgd (0 ≤ y2 ∧ y2 < 256) (zlt (zst M3 (zfr k l0 69) y2.toNat (v2)) (fun M4 => zlt (y2 + 1) (fun x5 => some (.inl (x5, M4)))))))
def f_X11_findLives (k : zK)  (p0 : Nat) (p1 : Int) (M0 : zM) : Option zM :=
  zb1 (f_X11_finds k p0 p1 M0) (fun M1 => zb1 (zw2 (fb_X11_findLives_7 k p0 p1) zfu 0 M1) (fun M6 => some M6))
theorem vl_X11_findLives_7 {κ : zC} {w : zW} (hw : zWk w)  (l0 : Nat) (l1 : Int) (g0 : ztag w.1 l0 = 12)  (E : (zM) → Prop) (hX : ∀  (M1 : zM), E M1 → zB cX11_findLives RX11 3 none κ w (0, 0, 4) 33 [] [] M1)  (y2 : Int) (M0 : zM) :
    zV cX11_findLives RX11 3 none κ w (0, 0, 4) 7 [(2, iv y2), (0, rn w l0), (1, iv l1)] [] M0 (zw2 (fb_X11_findLives_7 w.1 l0 l1) zfu y2 M0) E := by
  have hT := hw.1
  refine zv_loop2 (fun y2 M0 => [(2, iv y2), (0, rn w l0), (1, iv l1)]) (fun y2 M0 => M0) (fun y2 M0 => ?_) y2 M0
  unfold fb_X11_findLives_7
  refine zv_iload_n dX11_findLives_7 0 rfl ?_
  refine zv_sipush (z := 256) dX11_findLives_8 (by decide) ?_
  refine zv_icmp_ge (tgt := 33) dX11_findLives_11 (by decide) ?_ ?_
  · exact zv_sub (L' := []) [] rfl (zv_exit (fun h => hX _ h))
  refine zv_rload_n dX11_findLives_14 1 rfl ?_
  refine zg_RX11_163 dX11_findLives_15 g0 ?_
  refine zv_iload_n dX11_findLives_18 0 rfl ?_
  refine zv_rload_n dX11_findLives_19 1 rfl ?_
  refine zv_iconst (z := 2) dX11_findLives_20 ?_
  refine zv_iload_n dX11_findLives_21 0 rfl ?_
  refine zv_iload_n dX11_findLives_22 2 rfl ?_
  refine (zv_callVi [iv 2, iv y2, iv l1] (c_X11_by κ.2.1 hw l0 2 y2 l1 M0 g0) zmd_X11_by zwI_X11_by zwS_X11_by zwM_RX11_393 zcd_11 g0 rfl (by decide) rfl (Nat.le_of_ble_eq_true rfl) dX11_findLives_23 (fun M3 v2 _ => ?_))
  refine zv_iast dX11_findLives_26 (zta_11_69 hT g0) (ztl_11_69 hT g0) (by decide) (fun M4 => ?_)
  refine zv_iinc dX11_findLives_27 0 rfl (fun x5 => [(2, iv x5), (0, rn w l0), (1, iv l1)]) (by decide) (fun _ => rfl) (fun x5 => ?_)
  refine zv_goto (tgt := 7) dX11_findLives_30 (by decide) ?_
  exact zv_sub (L' := [(2, iv x5), (0, rn w l0), (1, iv l1)]) [0, 1, 2] rfl (zv_exit (fun h => h))
theorem c_X11_findLives (l : Launch) {w : zW} (hw : zWk w)  (p0 : Nat) (p1 : Int) (M0 : zM) (hp0 : ztag w.1 p0 = 12) : zCn l yX11_findLives cX11_findLives 3 none (4) 0 w [rn w p0, iv p1] M0 ((f_X11_findLives w.1 p0 p1 M0).map fun m => (m, (0 : Int))) := by
  have hT := hw.1
  refine zCn_ofV (own := RX11) (by decide) rfl hw (Nat.le_of_ble_eq_true rfl) [(0, rn w p0), (1, iv p1)] rfl ?_
  intro κ hl
  subst hl
  unfold f_X11_findLives
  refine zv_rload_n dX11_findLives_0 0 rfl ?_
  refine zv_iload_n dX11_findLives_1 1 rfl ?_
  refine zv_vc (zv_callVv [iv p1] (c_X11_finds κ.2.1 hw p0 p1 M0 hp0) zmd_X11_finds zwI_X11_finds zwS_X11_finds zwM_RX11_385 zcd_11 hp0 rfl (by decide) rfl (Nat.le_of_ble_eq_true rfl) dX11_findLives_2 (fun M1 _ _ => ?_))
  refine zv_iconst (z := 0) dX11_findLives_5 ?_
  refine zv_istore_np (L' := [(2, iv 0), (0, rn w p0), (1, iv p1)]) (by rfl) dX11_findLives_6 (by decide) rfl ?_
  refine zv_join1 33 (fun M6 => []) (fun M6 => []) (fun M6 => M6) (zv_sub (L' := [(2, iv 0), (0, rn w p0), (1, iv p1)]) [0, 1, 2] rfl (vl_X11_findLives_7 hw p0 p1 hp0 _ (fun _ h => h) 0 M1)) (fun M6 => ?_)
  exact zv_ret (fun h => h) (zv_vret (v := 0) dX11_findLives_33)
def f_X11_isAge (k : zK)  (p0 : Int) (M0 : zM) : Option Int :=
  zbr p0 0 (p0 < 0) (some 0) (zbr p0 99 (99 < p0) (some 0) (some 1))
theorem c_X11_isAge (l : Launch) {w : zW} (hw : zWk w)  (p0 : Int) (M0 : zM)  : zCn l yX11_isAge cX11_isAge 1 (some .boolean) (0) 1 w [iv p0] M0 ((f_X11_isAge w.1 p0 M0).map fun v => (M0, v)) := by
  have hT := hw.1
  refine zCn_ofP (own := RX11) (by decide) rfl hw (Nat.le_of_ble_eq_true rfl) [(0, iv p0)] rfl ?_
  intro κ hl
  subst hl
  unfold f_X11_isAge
  refine zv_iload_n dX11_isAge_0 0 rfl ?_
  refine zv_if_lt (tgt := 14) dX11_isAge_1 (by decide) ?_ ?_
  · refine zv_iconst (z := 0) dX11_isAge_14 ?_
    exact zv_ret (fun h => h) (zv_zrB (by decide) dX11_isAge_15)
  refine zv_iload_n dX11_isAge_4 0 rfl ?_
  refine zv_bipush (z := 99) dX11_isAge_5 (by decide) ?_
  refine zv_icmp_gt (tgt := 14) dX11_isAge_7 (by decide) ?_ ?_
  · refine zv_iconst (z := 0) dX11_isAge_14 ?_
    exact zv_ret (fun h => h) (zv_zrB (by decide) dX11_isAge_15)
  refine zv_iconst (z := 1) dX11_isAge_10 ?_
  refine zv_goto (tgt := 15) dX11_isAge_11 (by decide) ?_
  exact zv_ret (fun h => h) (zv_zrB (by decide) dX11_isAge_15)
def f_X11_isCell (k : zK)  (p0 : Int) (M0 : zM) : Option Int :=
  zbr p0 0 (p0 < 0) (some 0) (zbr p0 256 (256 ≤ p0) (some 0) (some 1))
theorem c_X11_isCell (l : Launch) {w : zW} (hw : zWk w)  (p0 : Int) (M0 : zM)  : zCn l yX11_isCell cX11_isCell 1 (some .boolean) (0) 1 w [iv p0] M0 ((f_X11_isCell w.1 p0 M0).map fun v => (M0, v)) := by
  have hT := hw.1
  refine zCn_ofP (own := RX11) (by decide) rfl hw (Nat.le_of_ble_eq_true rfl) [(0, iv p0)] rfl ?_
  intro κ hl
  subst hl
  unfold f_X11_isCell
  refine zv_iload_n dX11_isCell_0 0 rfl ?_
  refine zv_if_lt (tgt := 15) dX11_isCell_1 (by decide) ?_ ?_
  · refine zv_iconst (z := 0) dX11_isCell_15 ?_
    exact zv_ret (fun h => h) (zv_zrB (by decide) dX11_isCell_16)
  refine zv_iload_n dX11_isCell_4 0 rfl ?_
  refine zv_sipush (z := 256) dX11_isCell_5 (by decide) ?_
  refine zv_icmp_ge (tgt := 15) dX11_isCell_8 (by decide) ?_ ?_
  · refine zv_iconst (z := 0) dX11_isCell_15 ?_
    exact zv_ret (fun h => h) (zv_zrB (by decide) dX11_isCell_16)
  refine zv_iconst (z := 1) dX11_isCell_11 ?_
  refine zv_goto (tgt := 16) dX11_isCell_12 (by decide) ?_
  exact zv_ret (fun h => h) (zv_zrB (by decide) dX11_isCell_16)
def fb_X11_rankOf_4 (k : zK)  (l0 : Nat) (l1 : Int) (M0 : zM) (y2 : Int) (y3 : Int) : Option ((Int × Int) ⊕ (Int)) :=
  zbr y3 256 (256 ≤ y3) (some (.inr y2)) (zgd (0 ≤ y3 ∧ y3 < 256) (zgd (0 ≤ l1 ∧ l1 < 256) (zsp1 (zbr (M0 (zfr k l0 69) y3.toNat) (M0 (zfr k l0 69) l1.toNat) (M0 (zfr k l0 69) l1.toNat < M0 (zfr k l0 69) y3.toNat) (some (.inl y3)) (zgd (0 ≤ y3 ∧ y3 < 256) (zgd (0 ≤ l1 ∧ l1 < 256) (zsp0 (zbr (M0 (zfr k l0 69) y3.toNat) (M0 (zfr k l0 69) l1.toNat) (¬ M0 (zfr k l0 69) y3.toNat = M0 (zfr k l0 69) l1.toNat) (some (.inl ())) (zbr y3 l1 (l1 ≤ y3) (some (.inl ())) (some (.inr (.inl y3))))) (fun r => some r) (zlt (y2 + 0) (fun x1 => zlt (y3 + 1) (fun x2 => some (.inr (.inl (x1, x2)))))))))) (fun r => some r) (fun x3 => zlt (y2 + 1) (fun x4 => zlt (x3 + 1) (fun x5 => some (.inl (x4, x5))))))))
def f_X11_rankOf (k : zK)  (p0 : Nat) (p1 : Int) (M0 : zM) : Option Int :=
  zb1 (zw2 (fb_X11_rankOf_4 k p0 p1 M0) zfu 0 0) (fun x6 => some x6)
theorem vl_X11_rankOf_4 {κ : zC} {w : zW} (hw : zWk w)  (l0 : Nat) (l1 : Int) (g0 : ztag w.1 l0 = 12) (M0 : zM) (E : (Int) → Prop) (hX : ∀ (u2 : Int), E u2 → zB cX11_rankOf RX11 4 (some .int) κ w (0, 0, 0) 60 [(2, iv u2)] [] M0)  (y2 : Int) (y3 : Int) :
    zV cX11_rankOf RX11 4 (some .int) κ w (0, 0, 0) 4 [(2, iv y2), (3, iv y3), (0, rn w l0), (1, iv l1)] [] M0 (zw2 (fb_X11_rankOf_4 w.1 l0 l1 M0) zfu y2 y3) E := by
  have hT := hw.1
  refine zv_loop2 (fun y2 y3 => [(2, iv y2), (3, iv y3), (0, rn w l0), (1, iv l1)]) (fun y2 y3 => M0) (fun y2 y3 => ?_) y2 y3
  unfold fb_X11_rankOf_4
  refine zv_iload_n dX11_rankOf_4 1 rfl ?_
  refine zv_sipush (z := 256) dX11_rankOf_5 (by decide) ?_
  refine zv_icmp_ge (tgt := 60) dX11_rankOf_8 (by decide) ?_ ?_
  · exact zv_sub (L' := [(2, iv y2)]) [0] rfl (zv_exit (fun h => hX _ h))
  refine zv_iload_n dX11_rankOf_11 0 rfl ?_
  refine zv_rload_n dX11_rankOf_12 2 rfl ?_
  refine zg_RX11_163 dX11_rankOf_13 g0 ?_
  refine zv_iload_n dX11_rankOf_16 1 rfl ?_
  refine zv_iald dX11_rankOf_17 (zta_11_69 hT g0) (ztl_11_69 hT g0) (by decide) ?_
  refine zv_rload_n dX11_rankOf_18 2 rfl ?_
  refine zg_RX11_163 dX11_rankOf_19 g0 ?_
  refine zv_iload_n dX11_rankOf_22 3 rfl ?_
  refine zv_iald dX11_rankOf_23 (zta_11_69 hT g0) (ztl_11_69 hT g0) (by decide) ?_
  refine zv_joinS1 (fun r => r) 47 (fun x3 => [(3, iv x3), (0, rn w l0), (1, iv l1)]) (fun x3 => [iv y2]) (fun x3 => M0) ?_ (fun x3 => ?_)
  · refine zv_icmp_gt (tgt := 47) dX11_rankOf_24 (by decide) ?_ ?_
    · exact zv_sub (L' := [(3, iv y3), (0, rn w l0), (1, iv l1)]) [1, 2, 3] rfl (zv_exit (fun h => h))
    refine zv_rload_n dX11_rankOf_27 2 rfl ?_
    refine zg_RX11_163 dX11_rankOf_28 g0 ?_
    refine zv_iload_n dX11_rankOf_31 1 rfl ?_
    refine zv_iald dX11_rankOf_32 (zta_11_69 hT g0) (ztl_11_69 hT g0) (by decide) ?_
    refine zv_rload_n dX11_rankOf_33 2 rfl ?_
    refine zg_RX11_163 dX11_rankOf_34 g0 ?_
    refine zv_iload_n dX11_rankOf_37 3 rfl ?_
    refine zv_iald dX11_rankOf_38 (zta_11_69 hT g0) (ztl_11_69 hT g0) (by decide) ?_
    refine zv_joinS0 (fun r => r) 51 ([(3, iv y3), (0, rn w l0), (1, iv l1)]) ([iv y2]) (M0) ?_ (?_)
    · refine zv_icmp_ne (tgt := 51) dX11_rankOf_39 (by decide) ?_ ?_
      · exact zv_sub (L' := [(3, iv y3), (0, rn w l0), (1, iv l1)]) [1, 2, 3] rfl (zv_exit (fun h => h))
      refine zv_iload_n dX11_rankOf_42 1 rfl ?_
      refine zv_iload_n dX11_rankOf_43 3 rfl ?_
      refine zv_icmp_ge (tgt := 51) dX11_rankOf_44 (by decide) ?_ ?_
      · exact zv_sub (L' := [(3, iv y3), (0, rn w l0), (1, iv l1)]) [1, 2, 3] rfl (zv_exit (fun h => h))
      exact zv_sub (L' := [(3, iv y3), (0, rn w l0), (1, iv l1)]) [1, 2, 3] rfl (zv_exit (fun h => h))
    refine zv_iconst (z := 0) dX11_rankOf_51 ?_
    refine zv_iadd dX11_rankOf_52 ?_
    refine zv_istore_n (i := 2) (by rfl) dX11_rankOf_53 (fun x1 => [(2, iv x1), (3, iv y3), (0, rn w l0), (1, iv l1)]) (by decide) (fun _ => rfl) (fun x1 => ?_)
    refine zv_iinc dX11_rankOf_54 1 rfl (fun x2 => [(3, iv x2), (2, iv x1), (0, rn w l0), (1, iv l1)]) (by decide) (fun _ => rfl) (fun x2 => ?_)
    refine zv_goto (tgt := 4) dX11_rankOf_57 (by decide) ?_
    exact zv_sub (L' := [(2, iv x1), (3, iv x2), (0, rn w l0), (1, iv l1)]) [1, 0, 2, 3] rfl (zv_exit (fun h => h))
  refine zv_iconst (z := 1) dX11_rankOf_47 ?_
  refine zv_goto (tgt := 52) dX11_rankOf_48 (by decide) ?_
  refine zv_iadd dX11_rankOf_52 ?_
  refine zv_istore_n (i := 2) (by rfl) dX11_rankOf_53 (fun x4 => [(2, iv x4), (3, iv x3), (0, rn w l0), (1, iv l1)]) (by decide) (fun _ => rfl) (fun x4 => ?_)
  refine zv_iinc dX11_rankOf_54 1 rfl (fun x5 => [(3, iv x5), (2, iv x4), (0, rn w l0), (1, iv l1)]) (by decide) (fun _ => rfl) (fun x5 => ?_)
  refine zv_goto (tgt := 4) dX11_rankOf_57 (by decide) ?_
  exact zv_sub (L' := [(2, iv x4), (3, iv x5), (0, rn w l0), (1, iv l1)]) [1, 0, 2, 3] rfl (zv_exit (fun h => h))
theorem c_X11_rankOf (l : Launch) {w : zW} (hw : zWk w)  (p0 : Nat) (p1 : Int) (M0 : zM) (hp0 : ztag w.1 p0 = 12) : zCn l yX11_rankOf cX11_rankOf 4 (some .int) (0) 1 w [rn w p0, iv p1] M0 ((f_X11_rankOf w.1 p0 p1 M0).map fun v => (M0, v)) := by
  have hT := hw.1
  refine zCn_ofP (own := RX11) (by decide) rfl hw (Nat.le_of_ble_eq_true rfl) [(0, rn w p0), (1, iv p1)] rfl ?_
  intro κ hl
  subst hl
  unfold f_X11_rankOf
  refine zv_iconst (z := 0) dX11_rankOf_0 ?_
  refine zv_istore_np (L' := [(2, iv 0), (0, rn w p0), (1, iv p1)]) (by rfl) dX11_rankOf_1 (by decide) rfl ?_
  refine zv_iconst (z := 0) dX11_rankOf_2 ?_
  refine zv_istore_np (L' := [(3, iv 0), (2, iv 0), (0, rn w p0), (1, iv p1)]) (by rfl) dX11_rankOf_3 (by decide) rfl ?_
  refine zv_join1 60 (fun x6 => [(2, iv x6)]) (fun x6 => []) (fun x6 => M0) (zv_sub (L' := [(2, iv 0), (3, iv 0), (0, rn w p0), (1, iv p1)]) [1, 0, 2, 3] rfl (vl_X11_rankOf_4 hw p0 p1 hp0 M0 _ (fun _ h => h) 0 0)) (fun x6 => ?_)
  refine zv_iload_n dX11_rankOf_60 0 rfl ?_
  exact zv_ret (fun h => h) (zv_iret dX11_rankOf_61)
def fb_X11_ahead_23 (k : zK)  (l0 : Nat) (l2 : Int) (M0 : zM) (y3 : Int) : Option ((Int) ⊕ ((Unit) ⊕ (zM × Int))) :=
  zbr y3 256 (256 ≤ y3) (some (.inr (.inl ()))) (zb1 (f_X11_rankOf k l0 y3 M0) (fun v6 => zbr v6 l2 (¬ v6 = l2) (zlt (y3 + 1) (fun x8 => some (.inl (x8)))) (some (.inr (.inr (M0, y3))))))
def f_X11_ahead (k : zK)  (p0 : Nat) (p1 : Int) (p2 : Int) (M0 : zM) : Option (zM × Int) :=
  zb1 (f_X11_isAge k p1 M0) (fun v1 => zbr v1 0 (v1 = 0) (some (M0, (-1))) (zb1 (f_X11_isCell k p2 M0) (fun v3 => zbr v3 0 (¬ v3 = 0) (zb1 (f_X11_findLives k p0 p1 M0) (fun M5 => zsp0 (zw1 (fb_X11_ahead_23 k p0 p2 M5) zfu 0) (fun r => some (r)) (some (M5, (-1))))) (some (M0, (-1))))))
theorem vl_X11_ahead_23 {κ : zC} {w : zW} (hw : zWk w)  (l0 : Nat) (l2 : Int) (g0 : ztag w.1 l0 = 12) (M0 : zM) (E : ((Unit) ⊕ (zM × Int)) → Prop) (hX : E (.inl ()) → zB cX11_ahead RX11 4 (some .int) κ w (0, 0, 5) 47 [] [] M0) (hR : ∀ r, E (.inr r) → zRt κ w (0, 0, 5) 1 r) (y3 : Int) :
    zV cX11_ahead RX11 4 (some .int) κ w (0, 0, 5) 23 [(3, iv y3), (0, rn w l0), (2, iv l2)] [] M0 (zw1 (fb_X11_ahead_23 w.1 l0 l2 M0) zfu y3) E := by
  have hT := hw.1
  refine zv_loop1 (fun y3 => [(3, iv y3), (0, rn w l0), (2, iv l2)]) (fun y3 => M0) (fun y3 => ?_) y3
  unfold fb_X11_ahead_23
  refine zv_iload_n dX11_ahead_23 0 rfl ?_
  refine zv_sipush (z := 256) dX11_ahead_24 (by decide) ?_
  refine zv_icmp_ge (tgt := 47) dX11_ahead_27 (by decide) ?_ ?_
  · exact zv_sub (L' := []) [] rfl (zv_exit (fun h => hX  h))
  refine zv_rload_n dX11_ahead_30 1 rfl ?_
  refine zv_iload_n dX11_ahead_31 0 rfl ?_
  refine zv_pc (zv_callVi [iv y3] (c_X11_rankOf κ.2.1 hw l0 y3 M0 g0) zmd_X11_rankOf zwI_X11_rankOf zwS_X11_rankOf zwM_RX11_480 zcd_11 g0 rfl (by decide) rfl (Nat.le_of_ble_eq_true rfl) dX11_ahead_32 (fun mh7 v6 h7 => ?_))
  obtain rfl := zpuE h7
  refine zv_iload_n dX11_ahead_35 2 rfl ?_
  refine zv_icmp_ne (tgt := 41) dX11_ahead_36 (by decide) ?_ ?_
  · refine zv_iinc dX11_ahead_41 0 rfl (fun x8 => [(3, iv x8), (0, rn w l0), (2, iv l2)]) (by decide) (fun _ => rfl) (fun x8 => ?_)
    refine zv_goto (tgt := 23) dX11_ahead_44 (by decide) ?_
    exact zv_sub (L' := [(3, iv x8), (0, rn w l0), (2, iv l2)]) [0, 1, 2] rfl (zv_exit (fun h => h))
  refine zv_iload_n dX11_ahead_39 0 rfl ?_
  exact zv_ret (fun h => hR _ h) (zv_iret dX11_ahead_40)
theorem c_X11_ahead (l : Launch) {w : zW} (hw : zWk w)  (p0 : Nat) (p1 : Int) (p2 : Int) (M0 : zM) (hp0 : ztag w.1 p0 = 12) : zCn l yX11_ahead cX11_ahead 4 (some .int) (5) 1 w [rn w p0, iv p1, iv p2] M0 (f_X11_ahead w.1 p0 p1 p2 M0) := by
  have hT := hw.1
  refine zCn_of (own := RX11) (by decide) rfl hw (Nat.le_of_ble_eq_true rfl) [(0, rn w p0), (1, iv p1), (2, iv p2)] rfl ?_
  intro κ hl
  subst hl
  unfold f_X11_ahead
  refine zv_iload_n dX11_ahead_0 1 rfl ?_
  refine zv_pc (zv_callSi [iv p1] (c_X11_isAge κ.2.1 hw p1 M0 ) zmd_X11_isAge zwT_X11_isAge zwM_RX11_335 rfl (by decide) rfl (Nat.le_of_ble_eq_true rfl) dX11_ahead_1 (fun mh2 v1 h2 => ?_))
  obtain rfl := zpuE h2
  refine zv_if_eq (tgt := 14) dX11_ahead_4 (by decide) ?_ ?_
  · refine zv_iconst (z := (-1)) dX11_ahead_14 ?_
    exact zv_ret (fun h => h) (zv_iret dX11_ahead_15)
  refine zv_iload_n dX11_ahead_7 2 rfl ?_
  refine zv_pc (zv_callSi [iv p2] (c_X11_isCell κ.2.1 hw p2 M0 ) zmd_X11_isCell zwT_X11_isCell zwM_RX11_191 rfl (by decide) rfl (Nat.le_of_ble_eq_true rfl) dX11_ahead_8 (fun mh4 v3 h4 => ?_))
  obtain rfl := zpuE h4
  refine zv_if_ne (tgt := 16) dX11_ahead_11 (by decide) ?_ ?_
  · refine zv_rload_n dX11_ahead_16 0 rfl ?_
    refine zv_iload_n dX11_ahead_17 1 rfl ?_
    refine zv_vc (zv_callVv [iv p1] (c_X11_findLives κ.2.1 hw p0 p1 M0 hp0) zmd_X11_findLives zwI_X11_findLives zwS_X11_findLives zwM_RX11_477 zcd_11 hp0 rfl (by decide) rfl (Nat.le_of_ble_eq_true rfl) dX11_ahead_18 (fun M5 _ _ => ?_))
    refine zv_iconst (z := 0) dX11_ahead_21 ?_
    refine zv_istore_np (L' := [(3, iv 0), (0, rn w p0), (1, iv p1), (2, iv p2)]) (by rfl) dX11_ahead_22 (by decide) rfl ?_
    refine zv_joinS0 (fun r => r) 47 ([]) ([]) (M5) (zv_sub (L' := [(3, iv 0), (0, rn w p0), (2, iv p2)]) [0, 1, 3] rfl (vl_X11_ahead_23 hw p0 p2 hp0 M5 _ (fun h => h) (fun _ h => ((fun h => h)) h) 0)) (?_)
    refine zv_iconst (z := (-1)) dX11_ahead_47 ?_
    exact zv_ret (fun h => h) (zv_iret dX11_ahead_48)
  refine zv_iconst (z := (-1)) dX11_ahead_14 ?_
  exact zv_ret (fun h => h) (zv_iret dX11_ahead_15)
def fb_X11_spread_28 (k : zK)  (l0 : Nat) (l2 : Nat) (l4 : Int) (y3 : Int) (y5 : Int) (M0 : zM) : Option ((Int × Int × zM) ⊕ (Int × zM)) :=
  zbr y5 4 (4 ≤ y5) (some (.inr (y3, M0))) (zgd (0 ≤ l4 ∧ l4 < 256) (zb1 (f_X11_beside k (M0 (zfr k l0 58) l4.toNat) y5 M0) (fun v3 => zbr v3 0 (v3 < 0) (zlt (y5 + 1) (fun x5 => some (.inl (y3, x5, M0)))) (zgd (0 ≤ v3 ∧ v3 < 256) (zbr (M0 (zfr k l0 56) v3.toNat) 0 (¬ M0 (zfr k l0 56) v3.toNat = 0) (zlt (y5 + 1) (fun x6 => some (.inl (y3, x6, M0)))) (zgd (0 ≤ v3 ∧ v3 < 256) (zbr (M0 l2 v3.toNat) 0 (¬ M0 l2 v3.toNat = 0) (zgd (((1 : Int) = 0 ∨ (1 : Int) = 1) ∧ 0 ≤ v3 ∧ v3 < 256) (zlt (zst M0 (zfr k l0 56) v3.toNat (1)) (fun M7 => zgd (0 ≤ y3 ∧ y3 < 256) (zlt (zst M7 (zfr k l0 58) y3.toNat (v3)) (fun M8 => zlt (y3 + 1) (fun x9 => zlt (y5 + 1) (fun x10 => some (.inl (x9, x10, M8))))))))) (zlt (y5 + 1) (fun x11 => some (.inl (y3, x11, M0)))))))))))
def fb_X11_spread_19 (k : zK)  (l0 : Nat) (l2 : Nat) (y3 : Int) (y4 : Int) (M0 : zM) : Option ((Int × Int × zM) ⊕ (Int × zM)) :=
  zbr y4 y3 (y3 ≤ y4) (some (.inr (y3, M0))) (zb2 (zw3 (fb_X11_spread_28 k l0 l2 y4) zfu y3 0 M0) (fun x12 M13 => zlt (y4 + 1) (fun x14 => some (.inl (x12, x14, M13)))))
def f_X11_spread (k : zK)  (p0 : Nat) (p1 : Int) (p2 : Nat) (M0 : zM) : Option (zM × Int) :=
  zgd (0 ≤ (0 : Int) ∧ (0 : Int) < 256) (zlt (zst M0 (zfr k p0 58) (Int.toNat 0) (p1)) (fun M1 => zgd (((1 : Int) = 0 ∨ (1 : Int) = 1) ∧ 0 ≤ p1 ∧ p1 < 256) (zlt (zst M1 (zfr k p0 56) p1.toNat (1)) (fun M2 => zb2 (zw3 (fb_X11_spread_19 k p0 p2) zfu 1 0 M2) (fun x15 M16 => some (M16, x15))))))
theorem vl_X11_spread_28 {κ : zC} {w : zW} (hw : zWk w)  (l0 : Nat) (l2 : Nat) (l4 : Int) (g0 : ztag w.1 l0 = 12) (g2 : ztag w.1 l2 = 21) (gl2 : ((zlen w.1 l2 : Nat) : Int) = 256)  (E : (Int × zM) → Prop) (hX : ∀ (u3 : Int) (M1 : zM), E (u3, M1) → zB cX11_spread RX11 7 (some .int) κ w (0, 0, 1) 98 [(0, rn w l0), (2, rn w l2), (3, iv u3), (4, iv l4)] [] M1)  (y3 : Int) (y5 : Int) (M0 : zM) :
    zV cX11_spread RX11 7 (some .int) κ w (0, 0, 1) 28 [(3, iv y3), (5, iv y5), (0, rn w l0), (2, rn w l2), (4, iv l4)] [] M0 (zw3 (fb_X11_spread_28 w.1 l0 l2 l4) zfu y3 y5 M0) E := by
  have hT := hw.1
  refine zv_loop3 (fun y3 y5 M0 => [(3, iv y3), (5, iv y5), (0, rn w l0), (2, rn w l2), (4, iv l4)]) (fun y3 y5 M0 => M0) (fun y3 y5 M0 => ?_) y3 y5 M0
  unfold fb_X11_spread_28
  refine zv_iload dX11_spread_28 1 rfl ?_
  refine zv_iconst (z := 4) dX11_spread_30 ?_
  refine zv_icmp_ge (tgt := 98) dX11_spread_31 (by decide) ?_ ?_
  · exact zv_sub (L' := [(0, rn w l0), (2, rn w l2), (3, iv y3), (4, iv l4)]) [2, 3, 0, 4] rfl (zv_exit (fun h => hX _ _ h))
  refine zv_rload_n dX11_spread_34 2 rfl ?_
  refine zg_RX11_148 dX11_spread_35 g0 ?_
  refine zv_iload dX11_spread_38 4 rfl ?_
  refine zv_iald dX11_spread_40 (zta_11_58 hT g0) (ztl_11_58 hT g0) (by decide) ?_
  refine zv_iload dX11_spread_41 1 rfl ?_
  refine zv_pc (zv_callSi [iv (M0 (zfr w.1 l0 58) l4.toNat), iv y5] (c_X11_beside κ.2.1 hw (M0 (zfr w.1 l0 58) l4.toNat) y5 M0 ) zmd_X11_beside zwT_X11_beside zwM_RX11_353 rfl (by decide) rfl (Nat.le_of_ble_eq_true rfl) dX11_spread_43 (fun mh4 v3 h4 => ?_))
  obtain rfl := zpuE h4
  refine zv_istore_p (L' := [(6, iv v3), (3, iv y3), (5, iv y5), (0, rn w l0), (2, rn w l2), (4, iv l4)]) dX11_spread_46 (by decide) rfl ?_
  refine zv_iload dX11_spread_48 0 rfl ?_
  refine zv_if_lt (tgt := 92) dX11_spread_50 (by decide) ?_ ?_
  · refine zv_iinc dX11_spread_92 2 rfl (fun x5 => [(5, iv x5), (6, iv v3), (3, iv y3), (0, rn w l0), (2, rn w l2), (4, iv l4)]) (by decide) (fun _ => rfl) (fun x5 => ?_)
    refine zv_goto (tgt := 28) dX11_spread_95 (by decide) ?_
    exact zv_sub (L' := [(3, iv y3), (5, iv x5), (0, rn w l0), (2, rn w l2), (4, iv l4)]) [2, 0, 3, 4, 5] rfl (zv_exit (fun h => h))
  refine zv_rload_n dX11_spread_53 3 rfl ?_
  refine zg_RX11_142 dX11_spread_54 g0 ?_
  refine zv_iload dX11_spread_57 0 rfl ?_
  refine zv_zald dX11_spread_59 (zta_11_56 hT g0) (ztl_11_56 hT g0) (by decide) ?_
  refine zv_if_ne (tgt := 92) dX11_spread_60 (by decide) ?_ ?_
  · refine zv_iinc dX11_spread_92 2 rfl (fun x6 => [(5, iv x6), (6, iv v3), (3, iv y3), (0, rn w l0), (2, rn w l2), (4, iv l4)]) (by decide) (fun _ => rfl) (fun x6 => ?_)
    refine zv_goto (tgt := 28) dX11_spread_95 (by decide) ?_
    exact zv_sub (L' := [(3, iv y3), (5, iv x6), (0, rn w l0), (2, rn w l2), (4, iv l4)]) [2, 0, 3, 4, 5] rfl (zv_exit (fun h => h))
  refine zv_rload_n dX11_spread_63 4 rfl ?_
  refine zv_iload dX11_spread_64 0 rfl ?_
  refine zv_zald dX11_spread_66 g2 gl2 (by decide) ?_
  refine zv_if_ne (tgt := 73) dX11_spread_67 (by decide) ?_ ?_
  · refine zv_rload_n dX11_spread_73 3 rfl ?_
    refine zg_RX11_142 dX11_spread_74 g0 ?_
    refine zv_iload dX11_spread_77 0 rfl ?_
    refine zv_iconst (z := 1) dX11_spread_79 ?_
    refine zv_zast dX11_spread_80 (zta_11_56 hT g0) (ztl_11_56 hT g0) (by decide) (fun M7 => ?_)
    refine zv_rload_n dX11_spread_81 3 rfl ?_
    refine zg_RX11_148 dX11_spread_82 g0 ?_
    refine zv_iload_n dX11_spread_85 1 rfl ?_
    refine zv_iload dX11_spread_86 0 rfl ?_
    refine zv_iast dX11_spread_88 (zta_11_58 hT g0) (ztl_11_58 hT g0) (by decide) (fun M8 => ?_)
    refine zv_iinc dX11_spread_89 1 rfl (fun x9 => [(3, iv x9), (6, iv v3), (5, iv y5), (0, rn w l0), (2, rn w l2), (4, iv l4)]) (by decide) (fun _ => rfl) (fun x9 => ?_)
    refine zv_iinc dX11_spread_92 2 rfl (fun x10 => [(5, iv x10), (3, iv x9), (6, iv v3), (0, rn w l0), (2, rn w l2), (4, iv l4)]) (by decide) (fun _ => rfl) (fun x10 => ?_)
    refine zv_goto (tgt := 28) dX11_spread_95 (by decide) ?_
    exact zv_sub (L' := [(3, iv x9), (5, iv x10), (0, rn w l0), (2, rn w l2), (4, iv l4)]) [1, 0, 3, 4, 5] rfl (zv_exit (fun h => h))
  refine zv_goto (tgt := 92) dX11_spread_70 (by decide) ?_
  refine zv_iinc dX11_spread_92 2 rfl (fun x11 => [(5, iv x11), (6, iv v3), (3, iv y3), (0, rn w l0), (2, rn w l2), (4, iv l4)]) (by decide) (fun _ => rfl) (fun x11 => ?_)
  refine zv_goto (tgt := 28) dX11_spread_95 (by decide) ?_
  exact zv_sub (L' := [(3, iv y3), (5, iv x11), (0, rn w l0), (2, rn w l2), (4, iv l4)]) [2, 0, 3, 4, 5] rfl (zv_exit (fun h => h))
theorem vl_X11_spread_19 {κ : zC} {w : zW} (hw : zWk w)  (l0 : Nat) (l2 : Nat) (g0 : ztag w.1 l0 = 12) (g2 : ztag w.1 l2 = 21) (gl2 : ((zlen w.1 l2 : Nat) : Int) = 256)  (E : (Int × zM) → Prop) (hX : ∀ (u3 : Int) (M1 : zM), E (u3, M1) → zB cX11_spread RX11 7 (some .int) κ w (0, 0, 1) 104 [(3, iv u3)] [] M1)  (y3 : Int) (y4 : Int) (M0 : zM) :
    zV cX11_spread RX11 7 (some .int) κ w (0, 0, 1) 19 [(3, iv y3), (4, iv y4), (0, rn w l0), (2, rn w l2)] [] M0 (zw3 (fb_X11_spread_19 w.1 l0 l2) zfu y3 y4 M0) E := by
  have hT := hw.1
  refine zv_loop3 (fun y3 y4 M0 => [(3, iv y3), (4, iv y4), (0, rn w l0), (2, rn w l2)]) (fun y3 y4 M0 => M0) (fun y3 y4 M0 => ?_) y3 y4 M0
  unfold fb_X11_spread_19
  refine zv_iload dX11_spread_19 1 rfl ?_
  refine zv_iload_n dX11_spread_21 0 rfl ?_
  refine zv_icmp_ge (tgt := 104) dX11_spread_22 (by decide) ?_ ?_
  · exact zv_sub (L' := [(3, iv y3)]) [0] rfl (zv_exit (fun h => hX _ _ h))
  refine zv_iconst (z := 0) dX11_spread_25 ?_
  refine zv_istore_p (L' := [(5, iv 0), (3, iv y3), (4, iv y4), (0, rn w l0), (2, rn w l2)]) dX11_spread_26 (by decide) rfl ?_
  refine zv_join2 98 (fun x12 M13 => [(0, rn w l0), (2, rn w l2), (3, iv x12), (4, iv y4)]) (fun x12 M13 => []) (fun x12 M13 => M13) (zv_sub (L' := [(3, iv y3), (5, iv 0), (0, rn w l0), (2, rn w l2), (4, iv y4)]) [1, 0, 3, 4, 2] rfl (vl_X11_spread_28 hw l0 l2 y4 g0 g2 gl2 _ (fun _ _ h => h) y3 0 M0)) (fun x12 M13 => ?_)
  refine zv_iinc dX11_spread_98 3 rfl (fun x14 => [(4, iv x14), (0, rn w l0), (2, rn w l2), (3, iv x12)]) (by decide) (fun _ => rfl) (fun x14 => ?_)
  refine zv_goto (tgt := 19) dX11_spread_101 (by decide) ?_
  exact zv_sub (L' := [(3, iv x12), (4, iv x14), (0, rn w l0), (2, rn w l2)]) [3, 0, 1, 2] rfl (zv_exit (fun h => h))
theorem c_X11_spread (l : Launch) {w : zW} (hw : zWk w)  (p0 : Nat) (p1 : Int) (p2 : Nat) (M0 : zM) (hp0 : ztag w.1 p0 = 12) (hp2 : ztag w.1 p2 = 21) (hlp2 : ((zlen w.1 p2 : Nat) : Int) = 256) : zCn l yX11_spread cX11_spread 7 (some .int) (1) 1 w [rn w p0, iv p1, rn w p2] M0 (f_X11_spread w.1 p0 p1 p2 M0) := by
  have hT := hw.1
  refine zCn_of (own := RX11) (by decide) rfl hw (Nat.le_of_ble_eq_true rfl) [(0, rn w p0), (1, iv p1), (2, rn w p2)] rfl ?_
  intro κ hl
  subst hl
  unfold f_X11_spread
  refine zv_iconst (z := 1) dX11_spread_0 ?_
  refine zv_istore_np (L' := [(3, iv 1), (0, rn w p0), (1, iv p1), (2, rn w p2)]) (by rfl) dX11_spread_1 (by decide) rfl ?_
  refine zv_rload_n dX11_spread_2 1 rfl ?_
  refine zg_RX11_148 dX11_spread_3 hp0 ?_
  refine zv_iconst (z := 0) dX11_spread_6 ?_
  refine zv_iload_n dX11_spread_7 2 rfl ?_
  refine zv_iast dX11_spread_8 (zta_11_58 hT hp0) (ztl_11_58 hT hp0) (by decide) (fun M1 => ?_)
  refine zv_rload_n dX11_spread_9 1 rfl ?_
  refine zg_RX11_142 dX11_spread_10 hp0 ?_
  refine zv_iload_n dX11_spread_13 2 rfl ?_
  refine zv_iconst (z := 1) dX11_spread_14 ?_
  refine zv_zast dX11_spread_15 (zta_11_56 hT hp0) (ztl_11_56 hT hp0) (by decide) (fun M2 => ?_)
  refine zv_iconst (z := 0) dX11_spread_16 ?_
  refine zv_istore_p (L' := [(4, iv 0), (3, iv 1), (0, rn w p0), (1, iv p1), (2, rn w p2)]) dX11_spread_17 (by decide) rfl ?_
  refine zv_join2 104 (fun x15 M16 => [(3, iv x15)]) (fun x15 M16 => []) (fun x15 M16 => M16) (zv_sub (L' := [(3, iv 1), (4, iv 0), (0, rn w p0), (2, rn w p2)]) [1, 0, 2, 4] rfl (vl_X11_spread_19 hw p0 p2 hp0 hp2 hlp2 _ (fun _ _ h => h) 1 0 M2)) (fun x15 M16 => ?_)
  refine zv_iload_n dX11_spread_104 0 rfl ?_
  exact zv_ret (fun h => h) (zv_iret dX11_spread_105)
def fb_X11_unsees_2 (k : zK)  (l0 : Nat) (y1 : Int) (M0 : zM) : Option ((Int × zM) ⊕ (zM)) :=
  zbr y1 256 (256 ≤ y1) (some (.inr M0)) (zgd (((0 : Int) = 0 ∨ (0 : Int) = 1) ∧ 0 ≤ y1 ∧ y1 < 256) (zlt (zst M0 (zfr k l0 56) y1.toNat (0)) (fun M1 => zlt (y1 + 1) (fun x2 => some (.inl (x2, M1))))))
def f_X11_unsees (k : zK)  (p0 : Nat) (M0 : zM) : Option zM :=
  zb1 (zw2 (fb_X11_unsees_2 k p0) zfu 0 M0) (fun M3 => some M3)
theorem vl_X11_unsees_2 {κ : zC} {w : zW} (hw : zWk w)  (l0 : Nat) (g0 : ztag w.1 l0 = 12)  (E : (zM) → Prop) (hX : ∀  (M1 : zM), E M1 → zB cX11_unsees RX11 2 none κ w (0, 0, 0) 22 [] [] M1)  (y1 : Int) (M0 : zM) :
    zV cX11_unsees RX11 2 none κ w (0, 0, 0) 2 [(1, iv y1), (0, rn w l0)] [] M0 (zw2 (fb_X11_unsees_2 w.1 l0) zfu y1 M0) E := by
  have hT := hw.1
  refine zv_loop2 (fun y1 M0 => [(1, iv y1), (0, rn w l0)]) (fun y1 M0 => M0) (fun y1 M0 => ?_) y1 M0
  unfold fb_X11_unsees_2
  refine zv_iload_n dX11_unsees_2 0 rfl ?_
  refine zv_sipush (z := 256) dX11_unsees_3 (by decide) ?_
  refine zv_icmp_ge (tgt := 22) dX11_unsees_6 (by decide) ?_ ?_
  · exact zv_sub (L' := []) [] rfl (zv_exit (fun h => hX _ h))
  refine zv_rload_n dX11_unsees_9 1 rfl ?_
  refine zg_RX11_142 dX11_unsees_10 g0 ?_
  refine zv_iload_n dX11_unsees_13 0 rfl ?_
  refine zv_iconst (z := 0) dX11_unsees_14 ?_
  refine zv_zast dX11_unsees_15 (zta_11_56 hT g0) (ztl_11_56 hT g0) (by decide) (fun M1 => ?_)
  refine zv_iinc dX11_unsees_16 0 rfl (fun x2 => [(1, iv x2), (0, rn w l0)]) (by decide) (fun _ => rfl) (fun x2 => ?_)
  refine zv_goto (tgt := 2) dX11_unsees_19 (by decide) ?_
  exact zv_sub (L' := [(1, iv x2), (0, rn w l0)]) [0, 1] rfl (zv_exit (fun h => h))
theorem c_X11_unsees (l : Launch) {w : zW} (hw : zWk w)  (p0 : Nat) (M0 : zM) (hp0 : ztag w.1 p0 = 12) : zCn l yX11_unsees cX11_unsees 2 none (0) 0 w [rn w p0] M0 ((f_X11_unsees w.1 p0 M0).map fun m => (m, (0 : Int))) := by
  have hT := hw.1
  refine zCn_ofV (own := RX11) (by decide) rfl hw (Nat.le_of_ble_eq_true rfl) [(0, rn w p0)] rfl ?_
  intro κ hl
  subst hl
  unfold f_X11_unsees
  refine zv_iconst (z := 0) dX11_unsees_0 ?_
  refine zv_istore_np (L' := [(1, iv 0), (0, rn w p0)]) (by rfl) dX11_unsees_1 (by decide) rfl ?_
  refine zv_join1 22 (fun M3 => []) (fun M3 => []) (fun M3 => M3) (zv_sub (L' := [(1, iv 0), (0, rn w p0)]) [0, 1] rfl (vl_X11_unsees_2 hw p0 hp0 _ (fun _ h => h) 0 M0)) (fun M3 => ?_)
  exact zv_ret (fun h => h) (zv_vret (v := 0) dX11_unsees_22)
def f_X11_islandOf (k : zK)  (p0 : Nat) (p1 : Int) (M0 : zM) : Option (zM × Int) :=
  zgd (0 ≤ p1 ∧ p1 < 256) (zbr (M0 (zfr k p0 55) p1.toNat) 0 (¬ M0 (zfr k p0 55) p1.toNat = 0) (zb1 (f_X11_unsees k p0 M0) (fun M1 => zbd (f_X11_spread k p0 p1 (zfr k p0 55) M1) (fun M3 v2 => some (M3, v2)))) (some (M0, 0)))
theorem c_X11_islandOf (l : Launch) {w : zW} (hw : zWk w)  (p0 : Nat) (p1 : Int) (M0 : zM) (hp0 : ztag w.1 p0 = 12) : zCn l yX11_islandOf cX11_islandOf 2 (some .int) (2) 1 w [rn w p0, iv p1] M0 (f_X11_islandOf w.1 p0 p1 M0) := by
  have hT := hw.1
  refine zCn_of (own := RX11) (by decide) rfl hw (Nat.le_of_ble_eq_true rfl) [(0, rn w p0), (1, iv p1)] rfl ?_
  intro κ hl
  subst hl
  unfold f_X11_islandOf
  refine zv_rload_n dX11_islandOf_0 0 rfl ?_
  refine zg_RX11_139 dX11_islandOf_1 hp0 ?_
  refine zv_iload_n dX11_islandOf_4 1 rfl ?_
  refine zv_zald dX11_islandOf_5 (zta_11_55 hT hp0) (ztl_11_55 hT hp0) (by decide) ?_
  refine zv_if_ne (tgt := 11) dX11_islandOf_6 (by decide) ?_ ?_
  · refine zv_rload_n dX11_islandOf_11 0 rfl ?_
    refine zv_vc (zv_callVv [] (c_X11_unsees κ.2.1 hw p0 M0 hp0) zmd_X11_unsees zwI_X11_unsees zwS_X11_unsees zwM_RX11_368 zcd_11 hp0 rfl (by decide) rfl (Nat.le_of_ble_eq_true rfl) dX11_islandOf_12 (fun M1 _ _ => ?_))
    refine zv_rload_n dX11_islandOf_15 0 rfl ?_
    refine zv_iload_n dX11_islandOf_16 1 rfl ?_
    refine zv_rload_n dX11_islandOf_17 0 rfl ?_
    refine zg_RX11_139 dX11_islandOf_18 hp0 ?_
    refine (zv_callVi [iv p1, rn w (zfr w.1 p0 55)] (c_X11_spread κ.2.1 hw p0 p1 (zfr w.1 p0 55) M1 hp0 (zta_11_55 hT hp0) (ztl_11_55 hT hp0)) zmd_X11_spread zwI_X11_spread zwS_X11_spread zwM_RX11_371 zcd_11 hp0 rfl (by decide) rfl (Nat.le_of_ble_eq_true rfl) dX11_islandOf_21 (fun M3 v2 _ => ?_))
    exact zv_ret (fun h => h) (zv_iret dX11_islandOf_24)
  refine zv_iconst (z := 0) dX11_islandOf_9 ?_
  exact zv_ret (fun h => h) (zv_iret dX11_islandOf_10)
def fb_X11_alone_45 (k : zK)  (l0 : Nat) (l1 : Int) (l2 : Int) (l3 : Int) (y4 : Int) (y5 : Int) (y6 : Int) (y7 : Int) (M0 : zM) : Option ((Int × Int × Int × Int × zM) ⊕ (Int × Int × zM)) :=
  zbr y7 99 (99 < y7) (some (.inr (y5, y6, M0))) (zb1 (f_X11_findLand k l0 y7 M0) (fun M8 => zbd (f_X11_islandOf k l0 l1 M8) (fun M10 v9 => zb1 (f_X11_within k v9 1 l2 M10) (fun v11 => zb1 (zbr v11 0 (v11 = 0) (some (0)) (some (y4 + 1))) (fun x13 => zbr x13 y5 (y5 < x13) (zlt ((y7 - x13) + 1) (fun x14 => zlt (y7 + 1) (fun x15 => some (.inl (x13, x13, x14, x15, M10))))) (zlt (y7 + 1) (fun x16 => some (.inl (x13, y5, y6, x16, M10)))))))))
def f_X11_alone (k : zK)  (p0 : Nat) (p1 : Int) (p2 : Int) (p3 : Int) (M0 : zM) : Option (zM × Int) :=
  zb1 (f_X11_isCell k p1 M0) (fun v1 => zbr v1 0 (v1 = 0) (some (M0, (-1))) (zb1 (f_X11_within k p2 1 256 M0) (fun v3 => zbr v3 0 (v3 = 0) (some (M0, (-1))) (zb1 (f_X11_within k p3 0 1 M0) (fun v5 => zbr v5 0 (¬ v5 = 0) (zb1 (f_X11_findGround k p0 M0) (fun M7 => zb3 (zw5 (fb_X11_alone_45 k p0 p1 p2 p3) zfu 0 0 (-1) 0 M7) (fun x17 x18 M19 => zbr p3 0 (¬ p3 = 0) (some (M19, x18)) (some (M19, x17))))) (some (M0, (-1))))))))
theorem vl_X11_alone_45 {κ : zC} {w : zW} (hw : zWk w)  (l0 : Nat) (l1 : Int) (l2 : Int) (l3 : Int) (g0 : ztag w.1 l0 = 12)  (E : (Int × Int × zM) → Prop) (hX : ∀ (u5 : Int) (u6 : Int) (M1 : zM), E (u5, u6, M1) → zB cX11_alone RX11 8 (some .int) κ w (0, 0, 3) 110 [(3, iv l3), (5, iv u5), (6, iv u6)] [] M1)  (y4 : Int) (y5 : Int) (y6 : Int) (y7 : Int) (M0 : zM) :
    zV cX11_alone RX11 8 (some .int) κ w (0, 0, 3) 45 [(4, iv y4), (5, iv y5), (6, iv y6), (7, iv y7), (0, rn w l0), (1, iv l1), (2, iv l2), (3, iv l3)] [] M0 (zw5 (fb_X11_alone_45 w.1 l0 l1 l2 l3) zfu y4 y5 y6 y7 M0) E := by
  have hT := hw.1
  refine zv_loop5 (fun y4 y5 y6 y7 M0 => [(4, iv y4), (5, iv y5), (6, iv y6), (7, iv y7), (0, rn w l0), (1, iv l1), (2, iv l2), (3, iv l3)]) (fun y4 y5 y6 y7 M0 => M0) (fun y4 y5 y6 y7 M0 => ?_) y4 y5 y6 y7 M0
  unfold fb_X11_alone_45
  refine zv_iload dX11_alone_45 3 rfl ?_
  refine zv_bipush (z := 99) dX11_alone_47 (by decide) ?_
  refine zv_icmp_gt (tgt := 110) dX11_alone_49 (by decide) ?_ ?_
  · exact zv_sub (L' := [(3, iv l3), (5, iv y5), (6, iv y6)]) [7, 1, 2] rfl (zv_exit (fun h => hX _ _ _ h))
  refine zv_rload_n dX11_alone_52 4 rfl ?_
  refine zv_iload dX11_alone_53 3 rfl ?_
  refine zv_vc (zv_callVv [iv y7] (c_X11_findLand κ.2.1 hw l0 y7 M0 g0) zmd_X11_findLand zwI_X11_findLand zwS_X11_findLand zwM_RX11_365 zcd_11 g0 rfl (by decide) rfl (Nat.le_of_ble_eq_true rfl) dX11_alone_55 (fun M8 _ _ => ?_))
  refine zv_rload_n dX11_alone_58 4 rfl ?_
  refine zv_iload_n dX11_alone_59 5 rfl ?_
  refine (zv_callVi [iv l1] (c_X11_islandOf κ.2.1 hw l0 l1 M8 g0) zmd_X11_islandOf zwI_X11_islandOf zwS_X11_islandOf zwM_RX11_387 zcd_11 g0 rfl (by decide) rfl (Nat.le_of_ble_eq_true rfl) dX11_alone_60 (fun M10 v9 _ => ?_))
  refine zv_iconst (z := 1) dX11_alone_63 ?_
  refine zv_iload_n dX11_alone_64 6 rfl ?_
  refine zv_pc (zv_callSi [iv v9, iv 1, iv l2] (c_X11_within κ.2.1 hw v9 1 l2 M10 ) zmd_X11_within zwT_X11_within zwM_RX11_183 rfl (by decide) rfl (Nat.le_of_ble_eq_true rfl) dX11_alone_65 (fun mh12 v11 h12 => ?_))
  obtain rfl := zpuE h12
  refine zv_join1 79 (fun x13 => [(5, iv y5), (6, iv y6), (7, iv y7), (0, rn w l0), (1, iv l1), (2, iv l2), (3, iv l3)]) (fun x13 => [iv x13]) (fun x13 => M10) ?_ (fun x13 => ?_)
  · refine zv_if_eq (tgt := 78) dX11_alone_68 (by decide) ?_ ?_
    · refine zv_iconst (z := 0) dX11_alone_78 ?_
      exact zv_sub (L' := [(5, iv y5), (6, iv y6), (7, iv y7), (0, rn w l0), (1, iv l1), (2, iv l2), (3, iv l3)]) [1, 2, 3, 4, 5, 6, 7] rfl (zv_exit (fun h => h))
    refine zv_iload dX11_alone_71 0 rfl ?_
    refine zv_iconst (z := 1) dX11_alone_73 ?_
    refine zv_iadd dX11_alone_74 ?_
    refine zv_goto (tgt := 79) dX11_alone_75 (by decide) ?_
    exact zv_sub (L' := [(5, iv y5), (6, iv y6), (7, iv y7), (0, rn w l0), (1, iv l1), (2, iv l2), (3, iv l3)]) [1, 2, 3, 4, 5, 6, 7] rfl (zv_exit (fun h => h))
  refine zv_istore_p (L' := [(4, iv x13), (5, iv y5), (6, iv y6), (7, iv y7), (0, rn w l0), (1, iv l1), (2, iv l2), (3, iv l3)]) dX11_alone_79 (by decide) rfl ?_
  refine zv_iload dX11_alone_81 0 rfl ?_
  refine zv_iload dX11_alone_83 1 rfl ?_
  refine zv_icmp_gt (tgt := 91) dX11_alone_85 (by decide) ?_ ?_
  · refine zv_iload dX11_alone_91 0 rfl ?_
    refine zv_istore_p (L' := [(5, iv x13), (4, iv x13), (6, iv y6), (7, iv y7), (0, rn w l0), (1, iv l1), (2, iv l2), (3, iv l3)]) dX11_alone_93 (by decide) rfl ?_
    refine zv_iload dX11_alone_95 3 rfl ?_
    refine zv_iload dX11_alone_97 1 rfl ?_
    refine zv_isub dX11_alone_99 ?_
    refine zv_iconst (z := 1) dX11_alone_100 ?_
    refine zv_iadd dX11_alone_101 ?_
    refine zv_istore dX11_alone_102 (fun x14 => [(6, iv x14), (5, iv x13), (4, iv x13), (7, iv y7), (0, rn w l0), (1, iv l1), (2, iv l2), (3, iv l3)]) (by decide) (fun _ => rfl) (fun x14 => ?_)
    refine zv_iinc dX11_alone_104 3 rfl (fun x15 => [(7, iv x15), (6, iv x14), (5, iv x13), (4, iv x13), (0, rn w l0), (1, iv l1), (2, iv l2), (3, iv l3)]) (by decide) (fun _ => rfl) (fun x15 => ?_)
    refine zv_goto (tgt := 45) dX11_alone_107 (by decide) ?_
    exact zv_sub (L' := [(4, iv x13), (5, iv x13), (6, iv x14), (7, iv x15), (0, rn w l0), (1, iv l1), (2, iv l2), (3, iv l3)]) [3, 2, 1, 0, 4, 5, 6, 7] rfl (zv_exit (fun h => h))
  refine zv_goto (tgt := 104) dX11_alone_88 (by decide) ?_
  refine zv_iinc dX11_alone_104 3 rfl (fun x16 => [(7, iv x16), (4, iv x13), (5, iv y5), (6, iv y6), (0, rn w l0), (1, iv l1), (2, iv l2), (3, iv l3)]) (by decide) (fun _ => rfl) (fun x16 => ?_)
  refine zv_goto (tgt := 45) dX11_alone_107 (by decide) ?_
  exact zv_sub (L' := [(4, iv x13), (5, iv y5), (6, iv y6), (7, iv x16), (0, rn w l0), (1, iv l1), (2, iv l2), (3, iv l3)]) [1, 2, 3, 0, 4, 5, 6, 7] rfl (zv_exit (fun h => h))
theorem c_X11_alone (l : Launch) {w : zW} (hw : zWk w)  (p0 : Nat) (p1 : Int) (p2 : Int) (p3 : Int) (M0 : zM) (hp0 : ztag w.1 p0 = 12) : zCn l yX11_alone cX11_alone 8 (some .int) (3) 1 w [rn w p0, iv p1, iv p2, iv p3] M0 (f_X11_alone w.1 p0 p1 p2 p3 M0) := by
  have hT := hw.1
  refine zCn_of (own := RX11) (by decide) rfl hw (Nat.le_of_ble_eq_true rfl) [(0, rn w p0), (1, iv p1), (2, iv p2), (3, iv p3)] rfl ?_
  intro κ hl
  subst hl
  unfold f_X11_alone
  refine zv_iload_n dX11_alone_0 1 rfl ?_
  refine zv_pc (zv_callSi [iv p1] (c_X11_isCell κ.2.1 hw p1 M0 ) zmd_X11_isCell zwT_X11_isCell zwM_RX11_191 rfl (by decide) rfl (Nat.le_of_ble_eq_true rfl) dX11_alone_1 (fun mh2 v1 h2 => ?_))
  obtain rfl := zpuE h2
  refine zv_if_eq (tgt := 27) dX11_alone_4 (by decide) ?_ ?_
  · refine zv_iconst (z := (-1)) dX11_alone_27 ?_
    exact zv_ret (fun h => h) (zv_iret dX11_alone_28)
  refine zv_iload_n dX11_alone_7 2 rfl ?_
  refine zv_iconst (z := 1) dX11_alone_8 ?_
  refine zv_sipush (z := 256) dX11_alone_9 (by decide) ?_
  refine zv_pc (zv_callSi [iv p2, iv 1, iv 256] (c_X11_within κ.2.1 hw p2 1 256 M0 ) zmd_X11_within zwT_X11_within zwM_RX11_183 rfl (by decide) rfl (Nat.le_of_ble_eq_true rfl) dX11_alone_12 (fun mh4 v3 h4 => ?_))
  obtain rfl := zpuE h4
  refine zv_if_eq (tgt := 27) dX11_alone_15 (by decide) ?_ ?_
  · refine zv_iconst (z := (-1)) dX11_alone_27 ?_
    exact zv_ret (fun h => h) (zv_iret dX11_alone_28)
  refine zv_iload_n dX11_alone_18 3 rfl ?_
  refine zv_iconst (z := 0) dX11_alone_19 ?_
  refine zv_iconst (z := 1) dX11_alone_20 ?_
  refine zv_pc (zv_callSi [iv p3, iv 0, iv 1] (c_X11_within κ.2.1 hw p3 0 1 M0 ) zmd_X11_within zwT_X11_within zwM_RX11_183 rfl (by decide) rfl (Nat.le_of_ble_eq_true rfl) dX11_alone_21 (fun mh6 v5 h6 => ?_))
  obtain rfl := zpuE h6
  refine zv_if_ne (tgt := 29) dX11_alone_24 (by decide) ?_ ?_
  · refine zv_rload_n dX11_alone_29 0 rfl ?_
    refine zv_vc (zv_callVv [] (c_X11_findGround κ.2.1 hw p0 M0 hp0) zmd_X11_findGround zwI_X11_findGround zwS_X11_findGround zwM_RX11_362 zcd_11 hp0 rfl (by decide) rfl (Nat.le_of_ble_eq_true rfl) dX11_alone_30 (fun M7 _ _ => ?_))
    refine zv_iconst (z := 0) dX11_alone_33 ?_
    refine zv_istore_p (L' := [(4, iv 0), (0, rn w p0), (1, iv p1), (2, iv p2), (3, iv p3)]) dX11_alone_34 (by decide) rfl ?_
    refine zv_iconst (z := 0) dX11_alone_36 ?_
    refine zv_istore_p (L' := [(5, iv 0), (4, iv 0), (0, rn w p0), (1, iv p1), (2, iv p2), (3, iv p3)]) dX11_alone_37 (by decide) rfl ?_
    refine zv_iconst (z := (-1)) dX11_alone_39 ?_
    refine zv_istore_p (L' := [(6, iv (-1)), (5, iv 0), (4, iv 0), (0, rn w p0), (1, iv p1), (2, iv p2), (3, iv p3)]) dX11_alone_40 (by decide) rfl ?_
    refine zv_iconst (z := 0) dX11_alone_42 ?_
    refine zv_istore_p (L' := [(7, iv 0), (6, iv (-1)), (5, iv 0), (4, iv 0), (0, rn w p0), (1, iv p1), (2, iv p2), (3, iv p3)]) dX11_alone_43 (by decide) rfl ?_
    refine zv_join3 110 (fun x17 x18 M19 => [(3, iv p3), (5, iv x17), (6, iv x18)]) (fun x17 x18 M19 => []) (fun x17 x18 M19 => M19) (zv_sub (L' := [(4, iv 0), (5, iv 0), (6, iv (-1)), (7, iv 0), (0, rn w p0), (1, iv p1), (2, iv p2), (3, iv p3)]) [3, 2, 1, 0, 4, 5, 6, 7] rfl (vl_X11_alone_45 hw p0 p1 p2 p3 hp0 _ (fun _ _ _ h => h) 0 0 (-1) 0 M7)) (fun x17 x18 M19 => ?_)
    refine zv_iload_n dX11_alone_110 0 rfl ?_
    refine zv_if_ne (tgt := 119) dX11_alone_111 (by decide) ?_ ?_
    · refine zv_iload dX11_alone_119 2 rfl ?_
      exact zv_ret (fun h => h) (zv_iret dX11_alone_121)
    refine zv_iload dX11_alone_114 1 rfl ?_
    refine zv_goto (tgt := 121) dX11_alone_116 (by decide) ?_
    exact zv_ret (fun h => h) (zv_iret dX11_alone_121)
  refine zv_iconst (z := (-1)) dX11_alone_27 ?_
  exact zv_ret (fun h => h) (zv_iret dX11_alone_28)
def f_X11_areAges (k : zK)  (p0 : Int) (p1 : Int) (M0 : zM) : Option Int :=
  zb1 (f_X11_isAge k p0 M0) (fun v1 => zbr v1 0 (v1 = 0) (some 0) (zb1 (f_X11_isAge k p1 M0) (fun v3 => zbr v3 0 (v3 = 0) (some 0) (zbr p0 p1 (p1 < p0) (some 0) (some 1)))))
theorem c_X11_areAges (l : Launch) {w : zW} (hw : zWk w)  (p0 : Int) (p1 : Int) (M0 : zM)  : zCn l yX11_areAges cX11_areAges 2 (some .boolean) (1) 1 w [iv p0, iv p1] M0 ((f_X11_areAges w.1 p0 p1 M0).map fun v => (M0, v)) := by
  have hT := hw.1
  refine zCn_ofP (own := RX11) (by decide) rfl hw (Nat.le_of_ble_eq_true rfl) [(0, iv p0), (1, iv p1)] rfl ?_
  intro κ hl
  subst hl
  unfold f_X11_areAges
  refine zv_iload_n dX11_areAges_0 0 rfl ?_
  refine zv_pc (zv_callSi [iv p0] (c_X11_isAge κ.2.1 hw p0 M0 ) zmd_X11_isAge zwT_X11_isAge zwM_RX11_335 rfl (by decide) rfl (Nat.le_of_ble_eq_true rfl) dX11_areAges_1 (fun mh2 v1 h2 => ?_))
  obtain rfl := zpuE h2
  refine zv_if_eq (tgt := 23) dX11_areAges_4 (by decide) ?_ ?_
  · refine zv_iconst (z := 0) dX11_areAges_23 ?_
    exact zv_ret (fun h => h) (zv_zrB (by decide) dX11_areAges_24)
  refine zv_iload_n dX11_areAges_7 1 rfl ?_
  refine zv_pc (zv_callSi [iv p1] (c_X11_isAge κ.2.1 hw p1 M0 ) zmd_X11_isAge zwT_X11_isAge zwM_RX11_335 rfl (by decide) rfl (Nat.le_of_ble_eq_true rfl) dX11_areAges_8 (fun mh4 v3 h4 => ?_))
  obtain rfl := zpuE h4
  refine zv_if_eq (tgt := 23) dX11_areAges_11 (by decide) ?_ ?_
  · refine zv_iconst (z := 0) dX11_areAges_23 ?_
    exact zv_ret (fun h => h) (zv_zrB (by decide) dX11_areAges_24)
  refine zv_iload_n dX11_areAges_14 0 rfl ?_
  refine zv_iload_n dX11_areAges_15 1 rfl ?_
  refine zv_icmp_gt (tgt := 23) dX11_areAges_16 (by decide) ?_ ?_
  · refine zv_iconst (z := 0) dX11_areAges_23 ?_
    exact zv_ret (fun h => h) (zv_zrB (by decide) dX11_areAges_24)
  refine zv_iconst (z := 1) dX11_areAges_19 ?_
  refine zv_goto (tgt := 24) dX11_areAges_20 (by decide) ?_
  exact zv_ret (fun h => h) (zv_zrB (by decide) dX11_areAges_24)
def f_X11_kindOf (k : zK)  (p0 : Nat) (p1 : Int) (M0 : zM) : Option Int :=
  zgd (0 ≤ p1 ∧ p1 < 256) (zb1 (zbr (M0 (zfr k p0 53) p1.toNat) 9 (M0 (zfr k p0 53) p1.toNat ≤ 9) (some (0)) (some (1))) (fun x1 => zgd (0 ≤ p1 ∧ p1 < 256) (zb1 (zbr (M0 (zfr k p0 57) p1.toNat) 3 (3 ≤ M0 (zfr k p0 57) p1.toNat) (some (0)) (some (2))) (fun x2 => zgd (0 ≤ p1 ∧ p1 < 256) (zb1 (zbr (M0 (zfr k p0 54) p1.toNat) 3 (M0 (zfr k p0 54) p1.toNat ≤ 3) (some (0)) (some (4))) (fun x3 => zb1 (f_X11_heightOf k p0 p1 M0) (fun v4 => zbr v4 20 (20 ≤ v4) (some (((x1 + x2) + x3) + 0)) (some (((x1 + x2) + x3) + 8)))))))))
theorem c_X11_kindOf (l : Launch) {w : zW} (hw : zWk w)  (p0 : Nat) (p1 : Int) (M0 : zM) (hp0 : ztag w.1 p0 = 12) : zCn l yX11_kindOf cX11_kindOf 2 (some .int) (1) 1 w [rn w p0, iv p1] M0 ((f_X11_kindOf w.1 p0 p1 M0).map fun v => (M0, v)) := by
  have hT := hw.1
  refine zCn_ofP (own := RX11) (by decide) rfl hw (Nat.le_of_ble_eq_true rfl) [(0, rn w p0), (1, iv p1)] rfl ?_
  intro κ hl
  subst hl
  unfold f_X11_kindOf
  refine zv_rload_n dX11_kindOf_0 0 rfl ?_
  refine zg_RX11_133 dX11_kindOf_1 hp0 ?_
  refine zv_iload_n dX11_kindOf_4 1 rfl ?_
  refine zv_iald dX11_kindOf_5 (zta_11_53 hT hp0) (ztl_11_53 hT hp0) (by decide) ?_
  refine zv_bipush (z := 9) dX11_kindOf_6 (by decide) ?_
  refine zv_join1 16 (fun x1 => [(0, rn w p0), (1, iv p1)]) (fun x1 => [iv x1]) (fun x1 => M0) ?_ (fun x1 => ?_)
  · refine zv_icmp_le (tgt := 15) dX11_kindOf_8 (by decide) ?_ ?_
    · refine zv_iconst (z := 0) dX11_kindOf_15 ?_
      exact zv_sub (L' := [(0, rn w p0), (1, iv p1)]) [0, 1] rfl (zv_exit (fun h => h))
    refine zv_iconst (z := 1) dX11_kindOf_11 ?_
    refine zv_goto (tgt := 16) dX11_kindOf_12 (by decide) ?_
    exact zv_sub (L' := [(0, rn w p0), (1, iv p1)]) [0, 1] rfl (zv_exit (fun h => h))
  refine zv_rload_n dX11_kindOf_16 0 rfl ?_
  refine zg_RX11_145 dX11_kindOf_17 hp0 ?_
  refine zv_iload_n dX11_kindOf_20 1 rfl ?_
  refine zv_iald dX11_kindOf_21 (zta_11_57 hT hp0) (ztl_11_57 hT hp0) (by decide) ?_
  refine zv_iconst (z := 3) dX11_kindOf_22 ?_
  refine zv_join1 31 (fun x2 => [(0, rn w p0), (1, iv p1)]) (fun x2 => [iv x2, iv x1]) (fun x2 => M0) ?_ (fun x2 => ?_)
  · refine zv_icmp_ge (tgt := 30) dX11_kindOf_23 (by decide) ?_ ?_
    · refine zv_iconst (z := 0) dX11_kindOf_30 ?_
      exact zv_sub (L' := [(0, rn w p0), (1, iv p1)]) [0, 1] rfl (zv_exit (fun h => h))
    refine zv_iconst (z := 2) dX11_kindOf_26 ?_
    refine zv_goto (tgt := 31) dX11_kindOf_27 (by decide) ?_
    exact zv_sub (L' := [(0, rn w p0), (1, iv p1)]) [0, 1] rfl (zv_exit (fun h => h))
  refine zv_iadd dX11_kindOf_31 ?_
  refine zv_rload_n dX11_kindOf_32 0 rfl ?_
  refine zg_RX11_136 dX11_kindOf_33 hp0 ?_
  refine zv_iload_n dX11_kindOf_36 1 rfl ?_
  refine zv_iald dX11_kindOf_37 (zta_11_54 hT hp0) (ztl_11_54 hT hp0) (by decide) ?_
  refine zv_iconst (z := 3) dX11_kindOf_38 ?_
  refine zv_join1 47 (fun x3 => [(0, rn w p0), (1, iv p1)]) (fun x3 => [iv x3, iv (x1 + x2)]) (fun x3 => M0) ?_ (fun x3 => ?_)
  · refine zv_icmp_le (tgt := 46) dX11_kindOf_39 (by decide) ?_ ?_
    · refine zv_iconst (z := 0) dX11_kindOf_46 ?_
      exact zv_sub (L' := [(0, rn w p0), (1, iv p1)]) [0, 1] rfl (zv_exit (fun h => h))
    refine zv_iconst (z := 4) dX11_kindOf_42 ?_
    refine zv_goto (tgt := 47) dX11_kindOf_43 (by decide) ?_
    exact zv_sub (L' := [(0, rn w p0), (1, iv p1)]) [0, 1] rfl (zv_exit (fun h => h))
  refine zv_iadd dX11_kindOf_47 ?_
  refine zv_rload_n dX11_kindOf_48 0 rfl ?_
  refine zv_iload_n dX11_kindOf_49 1 rfl ?_
  refine zv_pc (zv_callVi [iv p1] (c_X11_heightOf κ.2.1 hw p0 p1 M0 hp0) zmd_X11_heightOf zwI_X11_heightOf zwS_X11_heightOf zwM_RX11_356 zcd_11 hp0 rfl (by decide) rfl (Nat.le_of_ble_eq_true rfl) dX11_kindOf_50 (fun mh5 v4 h5 => ?_))
  obtain rfl := zpuE h5
  refine zv_bipush (z := 20) dX11_kindOf_53 (by decide) ?_
  refine zv_icmp_ge (tgt := 63) dX11_kindOf_55 (by decide) ?_ ?_
  · refine zv_iconst (z := 0) dX11_kindOf_63 ?_
    refine zv_iadd dX11_kindOf_64 ?_
    exact zv_ret (fun h => h) (zv_iret dX11_kindOf_65)
  refine zv_bipush (z := 8) dX11_kindOf_58 (by decide) ?_
  refine zv_goto (tgt := 64) dX11_kindOf_60 (by decide) ?_
  refine zv_iadd dX11_kindOf_64 ?_
  exact zv_ret (fun h => h) (zv_iret dX11_kindOf_65)
def f_X11_asked_ (k : zK)  (p0 : Nat) (p1 : Int) (p2 : Int) (p3 : Int) (M0 : zM) : Option (zM × Int) :=
  zb1 (f_X11_isCell k p1 M0) (fun v1 => zbr v1 0 (v1 = 0) (some (M0, (-1))) (zb1 (f_X11_isAge k p2 M0) (fun v3 => zbr v3 0 (v3 = 0) (some (M0, (-1))) (zb1 (f_X11_within k p3 0 8 M0) (fun v5 => zbr v5 0 (¬ v5 = 0) (zb1 (f_X11_finds k p0 p2 M0) (fun M7 => zgd (zr p3) (if p3 = 0 then (zgd (0 ≤ p1 ∧ p1 < 256) (zbr (M7 (zfr k p0 55) p1.toNat) 0 (M7 (zfr k p0 55) p1.toNat = 0) (some (M7, 0)) (some (M7, 1)))) else (if p3 = 1 then (zb1 (f_X11_heightOf k p0 p1 M7) (fun v13 => some (M7, v13))) else (if p3 = 2 then (zgd (0 ≤ p1 ∧ p1 < 256) (some (M7, M7 (zfr k p0 57) p1.toNat))) else (if p3 = 3 then (zgd (0 ≤ p1 ∧ p1 < 256) (some (M7, M7 (zfr k p0 54) p1.toNat))) else (if p3 = 4 then (zbd (f_X11_islandOf k p0 p1 M7) (fun M22 v21 => some (M22, v21))) else (if p3 = 5 then (zbd (f_X11_by k p0 (p3 - 3) p1 p2 M7) (fun M26 v25 => some (M26, v25))) else (if p3 = 6 then (zbd (f_X11_by k p0 (p3 - 3) p1 p2 M7) (fun M30 v29 => some (M30, v29))) else (if p3 = 7 then (zbd (f_X11_by k p0 (p3 - 3) p1 p2 M7) (fun M34 v33 => some (M34, v33))) else (if p3 = 8 then (zb1 (f_X11_kindOf k p0 p1 M7) (fun v37 => some (M7, v37))) else (zbd (f_X11_by k p0 (p3 - 3) p1 p2 M7) (fun M40 v39 => some (M40, v39)))))))))))))) (some (M0, (-1))))))))
set_option maxRecDepth 20000 in
theorem c_X11_asked_ (l : Launch) {w : zW} (hw : zWk w)  (p0 : Nat) (p1 : Int) (p2 : Int) (p3 : Int) (M0 : zM) (hp0 : ztag w.1 p0 = 12) : zCn l yX11_asked_ cX11_asked_ 4 (some .int) (4) 1 w [rn w p0, iv p1, iv p2, iv p3] M0 (f_X11_asked_ w.1 p0 p1 p2 p3 M0) := by
  have hT := hw.1
  refine zCn_of (own := RX11) (by decide) rfl hw (Nat.le_of_ble_eq_true rfl) [(0, rn w p0), (1, iv p1), (2, iv p2), (3, iv p3)] rfl ?_
  intro κ hl
  subst hl
  unfold f_X11_asked_
  refine zv_iload_n dX11_asked__0 1 rfl ?_
  refine zv_pc (zv_callSi [iv p1] (c_X11_isCell κ.2.1 hw p1 M0 ) zmd_X11_isCell zwT_X11_isCell zwM_RX11_191 rfl (by decide) rfl (Nat.le_of_ble_eq_true rfl) dX11_asked__1 (fun mh2 v1 h2 => ?_))
  obtain rfl := zpuE h2
  refine zv_if_eq (tgt := 24) dX11_asked__4 (by decide) ?_ ?_
  · refine zv_iconst (z := (-1)) dX11_asked__24 ?_
    exact zv_ret (fun h => h) (zv_iret dX11_asked__25)
  refine zv_iload_n dX11_asked__7 2 rfl ?_
  refine zv_pc (zv_callSi [iv p2] (c_X11_isAge κ.2.1 hw p2 M0 ) zmd_X11_isAge zwT_X11_isAge zwM_RX11_335 rfl (by decide) rfl (Nat.le_of_ble_eq_true rfl) dX11_asked__8 (fun mh4 v3 h4 => ?_))
  obtain rfl := zpuE h4
  refine zv_if_eq (tgt := 24) dX11_asked__11 (by decide) ?_ ?_
  · refine zv_iconst (z := (-1)) dX11_asked__24 ?_
    exact zv_ret (fun h => h) (zv_iret dX11_asked__25)
  refine zv_iload_n dX11_asked__14 3 rfl ?_
  refine zv_iconst (z := 0) dX11_asked__15 ?_
  refine zv_bipush (z := 8) dX11_asked__16 (by decide) ?_
  refine zv_pc (zv_callSi [iv p3, iv 0, iv 8] (c_X11_within κ.2.1 hw p3 0 8 M0 ) zmd_X11_within zwT_X11_within zwM_RX11_183 rfl (by decide) rfl (Nat.le_of_ble_eq_true rfl) dX11_asked__18 (fun mh6 v5 h6 => ?_))
  obtain rfl := zpuE h6
  refine zv_if_ne (tgt := 26) dX11_asked__21 (by decide) ?_ ?_
  · refine zv_rload_n dX11_asked__26 0 rfl ?_
    refine zv_iload_n dX11_asked__27 2 rfl ?_
    refine zv_vc (zv_callVv [iv p2] (c_X11_finds κ.2.1 hw p0 p2 M0 hp0) zmd_X11_finds zwI_X11_finds zwS_X11_finds zwM_RX11_385 zcd_11 hp0 rfl (by decide) rfl (Nat.le_of_ble_eq_true rfl) dX11_asked__28 (fun M7 _ _ => ?_))
    refine zv_iload_n dX11_asked__31 3 rfl ?_
    refine zv_gd (fun h8 => ?_)
    refine zv_ite (fun h9 => ?_) (fun h10 => ?_)
    · refine zv_tin (tgt := 84) dX11_asked__32 h9 (by decide) (by decide) (by decide) rfl (by decide) ?_
      refine zv_rload_n dX11_asked__84 0 rfl ?_
      refine zg_RX11_139 dX11_asked__85 hp0 ?_
      refine zv_iload_n dX11_asked__88 1 rfl ?_
      refine zv_zald dX11_asked__89 (zta_11_55 hT hp0) (ztl_11_55 hT hp0) (by decide) ?_
      refine zv_if_eq (tgt := 97) dX11_asked__90 (by decide) ?_ ?_
      · refine zv_iconst (z := 0) dX11_asked__97 ?_
        exact zv_ret (fun h => h) (zv_iret dX11_asked__98)
      refine zv_iconst (z := 1) dX11_asked__93 ?_
      refine zv_goto (tgt := 98) dX11_asked__94 (by decide) ?_
      exact zv_ret (fun h => h) (zv_iret dX11_asked__98)
    refine zv_ite (fun h11 => ?_) (fun h12 => ?_)
    · refine zv_tin (tgt := 99) dX11_asked__32 h11 (by decide) (by decide) (by decide) rfl (by decide) ?_
      refine zv_rload_n dX11_asked__99 0 rfl ?_
      refine zv_iload_n dX11_asked__100 1 rfl ?_
      refine zv_pc (zv_callVi [iv p1] (c_X11_heightOf κ.2.1 hw p0 p1 M7 hp0) zmd_X11_heightOf zwI_X11_heightOf zwS_X11_heightOf zwM_RX11_356 zcd_11 hp0 rfl (by decide) rfl (Nat.le_of_ble_eq_true rfl) dX11_asked__101 (fun mh14 v13 h14 => ?_))
      obtain rfl := zpuE h14
      exact zv_ret (fun h => h) (zv_iret dX11_asked__104)
    refine zv_ite (fun h15 => ?_) (fun h16 => ?_)
    · refine zv_tin (tgt := 105) dX11_asked__32 h15 (by decide) (by decide) (by decide) rfl (by decide) ?_
      refine zv_rload_n dX11_asked__105 0 rfl ?_
      refine zg_RX11_145 dX11_asked__106 hp0 ?_
      refine zv_iload_n dX11_asked__109 1 rfl ?_
      refine zv_iald dX11_asked__110 (zta_11_57 hT hp0) (ztl_11_57 hT hp0) (by decide) ?_
      exact zv_ret (fun h => h) (zv_iret dX11_asked__111)
    refine zv_ite (fun h17 => ?_) (fun h18 => ?_)
    · refine zv_tin (tgt := 112) dX11_asked__32 h17 (by decide) (by decide) (by decide) rfl (by decide) ?_
      refine zv_rload_n dX11_asked__112 0 rfl ?_
      refine zg_RX11_136 dX11_asked__113 hp0 ?_
      refine zv_iload_n dX11_asked__116 1 rfl ?_
      refine zv_iald dX11_asked__117 (zta_11_54 hT hp0) (ztl_11_54 hT hp0) (by decide) ?_
      exact zv_ret (fun h => h) (zv_iret dX11_asked__118)
    refine zv_ite (fun h19 => ?_) (fun h20 => ?_)
    · refine zv_tin (tgt := 119) dX11_asked__32 h19 (by decide) (by decide) (by decide) rfl (by decide) ?_
      refine zv_rload_n dX11_asked__119 0 rfl ?_
      refine zv_iload_n dX11_asked__120 1 rfl ?_
      refine (zv_callVi [iv p1] (c_X11_islandOf κ.2.1 hw p0 p1 M7 hp0) zmd_X11_islandOf zwI_X11_islandOf zwS_X11_islandOf zwM_RX11_387 zcd_11 hp0 rfl (by decide) rfl (Nat.le_of_ble_eq_true rfl) dX11_asked__121 (fun M22 v21 _ => ?_))
      exact zv_ret (fun h => h) (zv_iret dX11_asked__124)
    refine zv_ite (fun h23 => ?_) (fun h24 => ?_)
    · refine zv_tin (tgt := 131) dX11_asked__32 h23 (by decide) (by decide) (by decide) rfl (by decide) ?_
      refine zv_rload_n dX11_asked__131 0 rfl ?_
      refine zv_iload_n dX11_asked__132 3 rfl ?_
      refine zv_iconst (z := 3) dX11_asked__133 ?_
      refine zv_isub dX11_asked__134 ?_
      refine zv_iload_n dX11_asked__135 1 rfl ?_
      refine zv_iload_n dX11_asked__136 2 rfl ?_
      refine (zv_callVi [iv (p3 - 3), iv p1, iv p2] (c_X11_by κ.2.1 hw p0 (p3 - 3) p1 p2 M7 hp0) zmd_X11_by zwI_X11_by zwS_X11_by zwM_RX11_393 zcd_11 hp0 rfl (by decide) rfl (Nat.le_of_ble_eq_true rfl) dX11_asked__137 (fun M26 v25 _ => ?_))
      exact zv_ret (fun h => h) (zv_iret dX11_asked__140)
    refine zv_ite (fun h27 => ?_) (fun h28 => ?_)
    · refine zv_tin (tgt := 131) dX11_asked__32 h27 (by decide) (by decide) (by decide) rfl (by decide) ?_
      refine zv_rload_n dX11_asked__131 0 rfl ?_
      refine zv_iload_n dX11_asked__132 3 rfl ?_
      refine zv_iconst (z := 3) dX11_asked__133 ?_
      refine zv_isub dX11_asked__134 ?_
      refine zv_iload_n dX11_asked__135 1 rfl ?_
      refine zv_iload_n dX11_asked__136 2 rfl ?_
      refine (zv_callVi [iv (p3 - 3), iv p1, iv p2] (c_X11_by κ.2.1 hw p0 (p3 - 3) p1 p2 M7 hp0) zmd_X11_by zwI_X11_by zwS_X11_by zwM_RX11_393 zcd_11 hp0 rfl (by decide) rfl (Nat.le_of_ble_eq_true rfl) dX11_asked__137 (fun M30 v29 _ => ?_))
      exact zv_ret (fun h => h) (zv_iret dX11_asked__140)
    refine zv_ite (fun h31 => ?_) (fun h32 => ?_)
    · refine zv_tin (tgt := 131) dX11_asked__32 h31 (by decide) (by decide) (by decide) rfl (by decide) ?_
      refine zv_rload_n dX11_asked__131 0 rfl ?_
      refine zv_iload_n dX11_asked__132 3 rfl ?_
      refine zv_iconst (z := 3) dX11_asked__133 ?_
      refine zv_isub dX11_asked__134 ?_
      refine zv_iload_n dX11_asked__135 1 rfl ?_
      refine zv_iload_n dX11_asked__136 2 rfl ?_
      refine (zv_callVi [iv (p3 - 3), iv p1, iv p2] (c_X11_by κ.2.1 hw p0 (p3 - 3) p1 p2 M7 hp0) zmd_X11_by zwI_X11_by zwS_X11_by zwM_RX11_393 zcd_11 hp0 rfl (by decide) rfl (Nat.le_of_ble_eq_true rfl) dX11_asked__137 (fun M34 v33 _ => ?_))
      exact zv_ret (fun h => h) (zv_iret dX11_asked__140)
    refine zv_ite (fun h35 => ?_) (fun h36 => ?_)
    · refine zv_tin (tgt := 125) dX11_asked__32 h35 (by decide) (by decide) (by decide) rfl (by decide) ?_
      refine zv_rload_n dX11_asked__125 0 rfl ?_
      refine zv_iload_n dX11_asked__126 1 rfl ?_
      refine zv_pc (zv_callVi [iv p1] (c_X11_kindOf κ.2.1 hw p0 p1 M7 hp0) zmd_X11_kindOf zwI_X11_kindOf zwS_X11_kindOf zwM_RX11_390 zcd_11 hp0 rfl (by decide) rfl (Nat.le_of_ble_eq_true rfl) dX11_asked__127 (fun mh38 v37 h38 => ?_))
      obtain rfl := zpuE h38
      exact zv_ret (fun h => h) (zv_iret dX11_asked__130)
    refine zv_tout (tgt := 131) dX11_asked__32 h8 (by omega) (by decide) ?_
    refine zv_rload_n dX11_asked__131 0 rfl ?_
    refine zv_iload_n dX11_asked__132 3 rfl ?_
    refine zv_iconst (z := 3) dX11_asked__133 ?_
    refine zv_isub dX11_asked__134 ?_
    refine zv_iload_n dX11_asked__135 1 rfl ?_
    refine zv_iload_n dX11_asked__136 2 rfl ?_
    refine (zv_callVi [iv (p3 - 3), iv p1, iv p2] (c_X11_by κ.2.1 hw p0 (p3 - 3) p1 p2 M7 hp0) zmd_X11_by zwI_X11_by zwS_X11_by zwM_RX11_393 zcd_11 hp0 rfl (by decide) rfl (Nat.le_of_ble_eq_true rfl) dX11_asked__137 (fun M40 v39 _ => ?_))
    exact zv_ret (fun h => h) (zv_iret dX11_asked__140)
  refine zv_iconst (z := (-1)) dX11_asked__24 ?_
  exact zv_ret (fun h => h) (zv_iret dX11_asked__25)
def f_X11_refuses (k : zK)  (p0 : Nat) (p1 : Int) (M0 : zM) : Option (zM × Int) :=
  zgd (0 ≤ p1 ∧ p1 < 3) (zgd (0 ≤ p1 ∧ p1 < 3) (zlt (zst M0 (zfr k p0 0) p1.toNat ((M0 (zfr k p0 0) p1.toNat) + 1)) (fun M1 => some (M1, (-1)))))
theorem c_X11_refuses (l : Launch) {w : zW} (hw : zWk w)  (p0 : Nat) (p1 : Int) (M0 : zM) (hp0 : ztag w.1 p0 = 12) : zCn l yX11_refuses cX11_refuses 2 (some .int) (0) 1 w [rn w p0, iv p1] M0 (f_X11_refuses w.1 p0 p1 M0) := by
  have hT := hw.1
  refine zCn_of (own := RX11) (by decide) rfl hw (Nat.le_of_ble_eq_true rfl) [(0, rn w p0), (1, iv p1)] rfl ?_
  intro κ hl
  subst hl
  unfold f_X11_refuses
  refine zv_rload_n dX11_refuses_0 0 rfl ?_
  refine zg_RX11_7 dX11_refuses_1 hp0 ?_
  refine zv_iload_n dX11_refuses_4 1 rfl ?_
  refine zv_dup2 dX11_refuses_5 rfl rfl ?_
  refine zv_iald dX11_refuses_6 (zta_11_0 hT hp0) (ztl_11_0 hT hp0) (by decide) ?_
  refine zv_iconst (z := 1) dX11_refuses_7 ?_
  refine zv_iadd dX11_refuses_8 ?_
  refine zv_iast dX11_refuses_9 (zta_11_0 hT hp0) (ztl_11_0 hT hp0) (by decide) (fun M1 => ?_)
  refine zv_iconst (z := (-1)) dX11_refuses_10 ?_
  exact zv_ret (fun h => h) (zv_iret dX11_refuses_11)
def f_X11_bucket (k : zK)  (p0 : Nat) (p1 : Int) (p2 : Int) (M0 : zM) : Option (zM × Int) :=
  zb1 (f_X11_isCell k p1 M0) (fun v1 => zsp1 (zbr v1 0 (v1 = 0) (some (.inl M0)) (zb1 (f_X11_within k p2 1 8 M0) (fun v3 => zbr v3 0 (¬ v3 = 0) (zgd (0 ≤ p1 ∧ p1 < 1024) (zbr ((M0 (zfr k p0 7) p1.toNat) + p2) 8 ((M0 (zfr k p0 7) p1.toNat) + p2 ≤ 8) (zgd (0 ≤ p1 ∧ p1 < 1024) (zgd (0 ≤ p1 ∧ p1 < 1024) (zlt (zst M0 (zfr k p0 7) p1.toNat ((M0 (zfr k p0 7) p1.toNat) + p2)) (fun M5 => zgd (0 ≤ p1 ∧ p1 < 1024) (some (.inr (M5, M5 (zfr k p0 7) p1.toNat))))))) (zbd (f_X11_refuses k p0 1 M0) (fun M7 v6 => some (.inr (M7, v6)))))) (some (.inl M0))))) (fun r => some r) (fun M8 => zbd (f_X11_refuses k p0 0 M8) (fun M10 v9 => some (M10, v9))))
theorem c_X11_bucket (l : Launch) {w : zW} (hw : zWk w)  (p0 : Nat) (p1 : Int) (p2 : Int) (M0 : zM) (hp0 : ztag w.1 p0 = 12) : zCn l yX11_bucket cX11_bucket 3 (some .int) (1) 1 w [rn w p0, iv p1, iv p2] M0 (f_X11_bucket w.1 p0 p1 p2 M0) := by
  have hT := hw.1
  refine zCn_of (own := RX11) (by decide) rfl hw (Nat.le_of_ble_eq_true rfl) [(0, rn w p0), (1, iv p1), (2, iv p2)] rfl ?_
  intro κ hl
  subst hl
  unfold f_X11_bucket
  refine zv_iload_n dX11_bucket_0 1 rfl ?_
  refine zv_pc (zv_callSi [iv p1] (c_X11_isCell κ.2.1 hw p1 M0 ) zmd_X11_isCell zwT_X11_isCell zwM_RX11_191 rfl (by decide) rfl (Nat.le_of_ble_eq_true rfl) dX11_bucket_1 (fun mh2 v1 h2 => ?_))
  obtain rfl := zpuE h2
  refine zv_joinS1 (fun r => r) 17 (fun M8 => [(0, rn w p0)]) (fun M8 => []) (fun M8 => M8) ?_ (fun M8 => ?_)
  · refine zv_if_eq (tgt := 17) dX11_bucket_4 (by decide) ?_ ?_
    · exact zv_sub (L' := [(0, rn w p0)]) [0] rfl (zv_exit (fun h => h))
    refine zv_iload_n dX11_bucket_7 2 rfl ?_
    refine zv_iconst (z := 1) dX11_bucket_8 ?_
    refine zv_bipush (z := 8) dX11_bucket_9 (by decide) ?_
    refine zv_pc (zv_callSi [iv p2, iv 1, iv 8] (c_X11_within κ.2.1 hw p2 1 8 M0 ) zmd_X11_within zwT_X11_within zwM_RX11_183 rfl (by decide) rfl (Nat.le_of_ble_eq_true rfl) dX11_bucket_11 (fun mh4 v3 h4 => ?_))
    obtain rfl := zpuE h4
    refine zv_if_ne (tgt := 23) dX11_bucket_14 (by decide) ?_ ?_
    · refine zv_rload_n dX11_bucket_23 0 rfl ?_
      refine zg_RX11_31 dX11_bucket_24 hp0 ?_
      refine zv_iload_n dX11_bucket_27 1 rfl ?_
      refine zv_iald dX11_bucket_28 (zta_11_7 hT hp0) (ztl_11_7 hT hp0) (by decide) ?_
      refine zv_iload_n dX11_bucket_29 2 rfl ?_
      refine zv_iadd dX11_bucket_30 ?_
      refine zv_bipush (z := 8) dX11_bucket_31 (by decide) ?_
      refine zv_icmp_le (tgt := 42) dX11_bucket_33 (by decide) ?_ ?_
      · refine zv_rload_n dX11_bucket_42 0 rfl ?_
        refine zg_RX11_31 dX11_bucket_43 hp0 ?_
        refine zv_iload_n dX11_bucket_46 1 rfl ?_
        refine zv_dup2 dX11_bucket_47 rfl rfl ?_
        refine zv_iald dX11_bucket_48 (zta_11_7 hT hp0) (ztl_11_7 hT hp0) (by decide) ?_
        refine zv_iload_n dX11_bucket_49 2 rfl ?_
        refine zv_iadd dX11_bucket_50 ?_
        refine zv_iast dX11_bucket_51 (zta_11_7 hT hp0) (ztl_11_7 hT hp0) (by decide) (fun M5 => ?_)
        refine zv_rload_n dX11_bucket_52 0 rfl ?_
        refine zg_RX11_31 dX11_bucket_53 hp0 ?_
        refine zv_iload_n dX11_bucket_56 1 rfl ?_
        refine zv_iald dX11_bucket_57 (zta_11_7 hT hp0) (ztl_11_7 hT hp0) (by decide) ?_
        exact zv_ret (fun h => h) (zv_iret dX11_bucket_58)
      refine zv_rload_n dX11_bucket_36 0 rfl ?_
      refine zv_iconst (z := 1) dX11_bucket_37 ?_
      refine (zv_callVi [iv 1] (c_X11_refuses κ.2.1 hw p0 1 M0 hp0) zmd_X11_refuses zwI_X11_refuses zwS_X11_refuses zwM_RX11_175 zcd_11 hp0 rfl (by decide) rfl (Nat.le_of_ble_eq_true rfl) dX11_bucket_38 (fun M7 v6 _ => ?_))
      exact zv_ret (fun h => h) (zv_iret dX11_bucket_41)
    exact zv_sub (L' := [(0, rn w p0)]) [0] rfl (zv_exit (fun h => h))
  refine zv_rload_n dX11_bucket_17 0 rfl ?_
  refine zv_iconst (z := 0) dX11_bucket_18 ?_
  refine (zv_callVi [iv 0] (c_X11_refuses κ.2.1 hw p0 0 M8 hp0) zmd_X11_refuses zwI_X11_refuses zwS_X11_refuses zwM_RX11_175 zcd_11 hp0 rfl (by decide) rfl (Nat.le_of_ble_eq_true rfl) dX11_bucket_19 (fun M10 v9 _ => ?_))
  exact zv_ret (fun h => h) (zv_iret dX11_bucket_22)
def fb_X11_findLive_32 (k : zK)  (l0 : Nat) (l1 : Int) (l3 : Int) (l4 : Int) (y5 : Int) (M0 : zM) : Option ((Int × zM) ⊕ (zM)) :=
  zbr y5 256 (256 ≤ y5) (some (.inr M0)) (zbd (f_X11_by k l0 2 y5 l4 M0) (fun M6 v5 => zgd (zr v5) (zlt (zst M6 l0 60 ((M6 l0 60) + v5)) (fun M7 => zbr y5 l1 (¬ y5 = l1) (zlt (zst M7 l0 59 ((M7 l0 59) + 0)) (fun M8 => zlt (y5 + 1) (fun x9 => some (.inl (x9, M8))))) (zgd (zr v5) (zlt (zst M7 l0 59 ((M7 l0 59) + v5)) (fun M10 => zlt (y5 + 1) (fun x11 => some (.inl (x11, M10))))))))))
def fb_X11_findLive_17 (k : zK)  (l0 : Nat) (l1 : Int) (l3 : Int) (y4 : Int) (M0 : zM) : Option ((Int × zM) ⊕ (zM)) :=
  zbr y4 l3 (l3 < y4) (some (.inr M0)) (zb1 (f_X11_findLand k l0 y4 M0) (fun M4 => zb1 (zw2 (fb_X11_findLive_32 k l0 l1 l3 y4) zfu 0 M4) (fun M12 => zlt (y4 + 1) (fun x13 => some (.inl (x13, M12))))))
def f_X11_findLive (k : zK)  (p0 : Nat) (p1 : Int) (p2 : Int) (p3 : Int) (M0 : zM) : Option zM :=
  zb1 (f_X11_findGround k p0 M0) (fun M1 => zlt (zst M1 p0 59 0) (fun M2 => zlt (zst M2 p0 60 0) (fun M3 => zb1 (zw2 (fb_X11_findLive_17 k p0 p1 p3) zfu p2 M3) (fun M14 => some M14))))
theorem vl_X11_findLive_32 {κ : zC} {w : zW} (hw : zWk w)  (l0 : Nat) (l1 : Int) (l3 : Int) (l4 : Int) (g0 : ztag w.1 l0 = 12)  (E : (zM) → Prop) (hX : ∀  (M1 : zM), E M1 → zB cX11_findLive RX11 7 none κ w (0, 0, 3) 91 [(0, rn w l0), (1, iv l1), (3, iv l3), (4, iv l4)] [] M1)  (y5 : Int) (M0 : zM) :
    zV cX11_findLive RX11 7 none κ w (0, 0, 3) 32 [(5, iv y5), (0, rn w l0), (1, iv l1), (3, iv l3), (4, iv l4)] [] M0 (zw2 (fb_X11_findLive_32 w.1 l0 l1 l3 l4) zfu y5 M0) E := by
  have hT := hw.1
  refine zv_loop2 (fun y5 M0 => [(5, iv y5), (0, rn w l0), (1, iv l1), (3, iv l3), (4, iv l4)]) (fun y5 M0 => M0) (fun y5 M0 => ?_) y5 M0
  unfold fb_X11_findLive_32
  refine zv_iload dX11_findLive_32 0 rfl ?_
  refine zv_sipush (z := 256) dX11_findLive_34 (by decide) ?_
  refine zv_icmp_ge (tgt := 91) dX11_findLive_37 (by decide) ?_ ?_
  · exact zv_sub (L' := [(0, rn w l0), (1, iv l1), (3, iv l3), (4, iv l4)]) [1, 2, 3, 4] rfl (zv_exit (fun h => hX _ h))
  refine zv_rload_n dX11_findLive_40 1 rfl ?_
  refine zv_iconst (z := 2) dX11_findLive_41 ?_
  refine zv_iload dX11_findLive_42 0 rfl ?_
  refine zv_iload dX11_findLive_44 4 rfl ?_
  refine (zv_callVi [iv 2, iv y5, iv l4] (c_X11_by κ.2.1 hw l0 2 y5 l4 M0 g0) zmd_X11_by zwI_X11_by zwS_X11_by zwM_RX11_393 zcd_11 g0 rfl (by decide) rfl (Nat.le_of_ble_eq_true rfl) dX11_findLive_46 (fun M6 v5 _ => ?_))
  refine zv_istore_p (L' := [(6, iv v5), (5, iv y5), (0, rn w l0), (1, iv l1), (3, iv l3), (4, iv l4)]) dX11_findLive_49 (by decide) rfl ?_
  refine zv_rload_n dX11_findLive_51 2 rfl ?_
  refine zv_dup dX11_findLive_52 rfl ?_
  refine zg_RX11_404 dX11_findLive_53 g0 ?_
  refine zv_iload dX11_findLive_56 0 rfl ?_
  refine zv_i2l dX11_findLive_58 ?_
  refine zv_ladd dX11_findLive_59 ?_
  refine zp_RX11_404 dX11_findLive_60 g0 (fun M7 => ?_)
  refine zv_rload_n dX11_findLive_63 2 rfl ?_
  refine zv_dup dX11_findLive_64 rfl ?_
  refine zg_RX11_401 dX11_findLive_65 g0 ?_
  refine zv_iload dX11_findLive_68 1 rfl ?_
  refine zv_iload_n dX11_findLive_70 3 rfl ?_
  refine zv_icmp_ne (tgt := 80) dX11_findLive_71 (by decide) ?_ ?_
  · refine zv_lconst (z := 0) dX11_findLive_80 (by decide) ?_
    refine zv_ladd dX11_findLive_81 ?_
    refine zp_RX11_401 dX11_findLive_82 g0 (fun M8 => ?_)
    refine zv_iinc dX11_findLive_85 1 rfl (fun x9 => [(5, iv x9), (6, iv v5), (0, rn w l0), (1, iv l1), (3, iv l3), (4, iv l4)]) (by decide) (fun _ => rfl) (fun x9 => ?_)
    refine zv_goto (tgt := 32) dX11_findLive_88 (by decide) ?_
    exact zv_sub (L' := [(5, iv x9), (0, rn w l0), (1, iv l1), (3, iv l3), (4, iv l4)]) [0, 2, 3, 4, 5] rfl (zv_exit (fun h => h))
  refine zv_iload dX11_findLive_74 0 rfl ?_
  refine zv_i2l dX11_findLive_76 ?_
  refine zv_goto (tgt := 81) dX11_findLive_77 (by decide) ?_
  refine zv_ladd dX11_findLive_81 ?_
  refine zp_RX11_401 dX11_findLive_82 g0 (fun M10 => ?_)
  refine zv_iinc dX11_findLive_85 1 rfl (fun x11 => [(5, iv x11), (6, iv v5), (0, rn w l0), (1, iv l1), (3, iv l3), (4, iv l4)]) (by decide) (fun _ => rfl) (fun x11 => ?_)
  refine zv_goto (tgt := 32) dX11_findLive_88 (by decide) ?_
  exact zv_sub (L' := [(5, iv x11), (0, rn w l0), (1, iv l1), (3, iv l3), (4, iv l4)]) [0, 2, 3, 4, 5] rfl (zv_exit (fun h => h))
theorem vl_X11_findLive_17 {κ : zC} {w : zW} (hw : zWk w)  (l0 : Nat) (l1 : Int) (l3 : Int) (g0 : ztag w.1 l0 = 12)  (E : (zM) → Prop) (hX : ∀  (M1 : zM), E M1 → zB cX11_findLive RX11 7 none κ w (0, 0, 3) 97 [] [] M1)  (y4 : Int) (M0 : zM) :
    zV cX11_findLive RX11 7 none κ w (0, 0, 3) 17 [(4, iv y4), (0, rn w l0), (1, iv l1), (3, iv l3)] [] M0 (zw2 (fb_X11_findLive_17 w.1 l0 l1 l3) zfu y4 M0) E := by
  have hT := hw.1
  refine zv_loop2 (fun y4 M0 => [(4, iv y4), (0, rn w l0), (1, iv l1), (3, iv l3)]) (fun y4 M0 => M0) (fun y4 M0 => ?_) y4 M0
  unfold fb_X11_findLive_17
  refine zv_iload dX11_findLive_17 0 rfl ?_
  refine zv_iload_n dX11_findLive_19 3 rfl ?_
  refine zv_icmp_gt (tgt := 97) dX11_findLive_20 (by decide) ?_ ?_
  · exact zv_sub (L' := []) [] rfl (zv_exit (fun h => hX _ h))
  refine zv_rload_n dX11_findLive_23 1 rfl ?_
  refine zv_iload dX11_findLive_24 0 rfl ?_
  refine zv_vc (zv_callVv [iv y4] (c_X11_findLand κ.2.1 hw l0 y4 M0 g0) zmd_X11_findLand zwI_X11_findLand zwS_X11_findLand zwM_RX11_365 zcd_11 g0 rfl (by decide) rfl (Nat.le_of_ble_eq_true rfl) dX11_findLive_26 (fun M4 _ _ => ?_))
  refine zv_iconst (z := 0) dX11_findLive_29 ?_
  refine zv_istore_p (L' := [(5, iv 0), (4, iv y4), (0, rn w l0), (1, iv l1), (3, iv l3)]) dX11_findLive_30 (by decide) rfl ?_
  refine zv_join1 91 (fun M12 => [(0, rn w l0), (1, iv l1), (3, iv l3), (4, iv y4)]) (fun M12 => []) (fun M12 => M12) (zv_sub (L' := [(5, iv 0), (0, rn w l0), (1, iv l1), (3, iv l3), (4, iv y4)]) [0, 2, 3, 4, 1] rfl (vl_X11_findLive_32 hw l0 l1 l3 y4 g0 _ (fun _ h => h) 0 M4)) (fun M12 => ?_)
  refine zv_iinc dX11_findLive_91 3 rfl (fun x13 => [(4, iv x13), (0, rn w l0), (1, iv l1), (3, iv l3)]) (by decide) (fun _ => rfl) (fun x13 => ?_)
  refine zv_goto (tgt := 17) dX11_findLive_94 (by decide) ?_
  exact zv_sub (L' := [(4, iv x13), (0, rn w l0), (1, iv l1), (3, iv l3)]) [0, 1, 2, 3] rfl (zv_exit (fun h => h))
theorem c_X11_findLive (l : Launch) {w : zW} (hw : zWk w)  (p0 : Nat) (p1 : Int) (p2 : Int) (p3 : Int) (M0 : zM) (hp0 : ztag w.1 p0 = 12) : zCn l yX11_findLive cX11_findLive 7 none (3) 0 w [rn w p0, iv p1, iv p2, iv p3] M0 ((f_X11_findLive w.1 p0 p1 p2 p3 M0).map fun m => (m, (0 : Int))) := by
  have hT := hw.1
  refine zCn_ofV (own := RX11) (by decide) rfl hw (Nat.le_of_ble_eq_true rfl) [(0, rn w p0), (1, iv p1), (2, iv p2), (3, iv p3)] rfl ?_
  intro κ hl
  subst hl
  unfold f_X11_findLive
  refine zv_rload_n dX11_findLive_0 0 rfl ?_
  refine zv_vc (zv_callVv [] (c_X11_findGround κ.2.1 hw p0 M0 hp0) zmd_X11_findGround zwI_X11_findGround zwS_X11_findGround zwM_RX11_362 zcd_11 hp0 rfl (by decide) rfl (Nat.le_of_ble_eq_true rfl) dX11_findLive_1 (fun M1 _ _ => ?_))
  refine zv_rload_n dX11_findLive_4 0 rfl ?_
  refine zv_lconst (z := 0) dX11_findLive_5 (by decide) ?_
  refine zp_RX11_401 dX11_findLive_6 hp0 (fun M2 => ?_)
  refine zv_rload_n dX11_findLive_9 0 rfl ?_
  refine zv_lconst (z := 0) dX11_findLive_10 (by decide) ?_
  refine zp_RX11_404 dX11_findLive_11 hp0 (fun M3 => ?_)
  refine zv_iload_n dX11_findLive_14 2 rfl ?_
  refine zv_istore_p (L' := [(4, iv p2), (0, rn w p0), (1, iv p1), (2, iv p2), (3, iv p3)]) dX11_findLive_15 (by decide) rfl ?_
  refine zv_join1 97 (fun M14 => []) (fun M14 => []) (fun M14 => M14) (zv_sub (L' := [(4, iv p2), (0, rn w p0), (1, iv p1), (3, iv p3)]) [0, 1, 2, 4] rfl (vl_X11_findLive_17 hw p0 p1 p3 hp0 _ (fun _ h => h) p2 M3)) (fun M14 => ?_)
  exact zv_ret (fun h => h) (zv_vret (v := 0) dX11_findLive_97)
def f_X11_isFind (k : zK)  (p0 : Nat) (p1 : Int) (M0 : zM) : Option Int :=
  zbr p1 0 (p1 < 0) (some 0) (zgd (0 ≤ (0 : Int) ∧ (0 : Int) < 4) (zbr p1 (M0 (zfr k p0 2) (Int.toNat 0)) (M0 (zfr k p0 2) (Int.toNat 0) ≤ p1) (some 0) (some 1)))
theorem c_X11_isFind (l : Launch) {w : zW} (hw : zWk w)  (p0 : Nat) (p1 : Int) (M0 : zM) (hp0 : ztag w.1 p0 = 12) : zCn l yX11_isFind cX11_isFind 2 (some .boolean) (0) 1 w [rn w p0, iv p1] M0 ((f_X11_isFind w.1 p0 p1 M0).map fun v => (M0, v)) := by
  have hT := hw.1
  refine zCn_ofP (own := RX11) (by decide) rfl hw (Nat.le_of_ble_eq_true rfl) [(0, rn w p0), (1, iv p1)] rfl ?_
  intro κ hl
  subst hl
  unfold f_X11_isFind
  refine zv_iload_n dX11_isFind_0 1 rfl ?_
  refine zv_if_lt (tgt := 18) dX11_isFind_1 (by decide) ?_ ?_
  · refine zv_iconst (z := 0) dX11_isFind_18 ?_
    exact zv_ret (fun h => h) (zv_zrB (by decide) dX11_isFind_19)
  refine zv_iload_n dX11_isFind_4 1 rfl ?_
  refine zv_rload_n dX11_isFind_5 0 rfl ?_
  refine zg_RX11_16 dX11_isFind_6 hp0 ?_
  refine zv_iconst (z := 0) dX11_isFind_9 ?_
  refine zv_iald dX11_isFind_10 (zta_11_2 hT hp0) (ztl_11_2 hT hp0) (by decide) ?_
  refine zv_icmp_ge (tgt := 18) dX11_isFind_11 (by decide) ?_ ?_
  · refine zv_iconst (z := 0) dX11_isFind_18 ?_
    exact zv_ret (fun h => h) (zv_zrB (by decide) dX11_isFind_19)
  refine zv_iconst (z := 1) dX11_isFind_14 ?_
  refine zv_goto (tgt := 19) dX11_isFind_15 (by decide) ?_
  exact zv_ret (fun h => h) (zv_zrB (by decide) dX11_isFind_19)
def fb_X11_last_5 (k : zK)  (l0 : Nat) (l1 : Int) (l2 : Int) (M0 : zM) (y3 : Int) (y4 : Int) : Option ((Int × Int) ⊕ (Int)) :=
  zgd (0 ≤ (0 : Int) ∧ (0 : Int) < 2) (zbr y4 (M0 (zfr k l0 21) (Int.toNat 0)) (M0 (zfr k l0 21) (Int.toNat 0) ≤ y4) (some (.inr y3)) (zgd (0 ≤ y4 ∧ y4 < 80) (zbr (M0 (zfr k l0 22) y4.toNat) l1 (¬ M0 (zfr k l0 22) y4.toNat = l1) (zlt (y4 + 1) (fun x1 => some (.inl (y3, x1)))) (zsp1 (zbr l2 0 (l2 < 0) (some (.inl y4)) (zgd (0 ≤ y4 ∧ y4 < 80) (zbr (M0 (zfr k l0 24) y4.toNat) l2 (¬ M0 (zfr k l0 24) y4.toNat = l2) (zlt (y4 + 1) (fun x2 => some (.inr (.inl (y3, x2))))) (some (.inl y4))))) (fun r => some r) (fun x3 => zgd (0 ≤ x3 ∧ x3 < 80) (zlt (M0 (zfr k l0 23) x3.toNat) (fun x4 => zlt (x3 + 1) (fun x5 => some (.inl (x4, x5))))))))))
def f_X11_last (k : zK)  (p0 : Nat) (p1 : Int) (p2 : Int) (M0 : zM) : Option Int :=
  zb1 (zw2 (fb_X11_last_5 k p0 p1 p2 M0) zfu 0 0) (fun x6 => some x6)
theorem vl_X11_last_5 {κ : zC} {w : zW} (hw : zWk w)  (l0 : Nat) (l1 : Int) (l2 : Int) (g0 : ztag w.1 l0 = 12) (M0 : zM) (E : (Int) → Prop) (hX : ∀ (u3 : Int), E u3 → zB cX11_last RX11 5 (some .int) κ w (0, 0, 0) 56 [(3, iv u3)] [] M0)  (y3 : Int) (y4 : Int) :
    zV cX11_last RX11 5 (some .int) κ w (0, 0, 0) 5 [(3, iv y3), (4, iv y4), (0, rn w l0), (1, iv l1), (2, iv l2)] [] M0 (zw2 (fb_X11_last_5 w.1 l0 l1 l2 M0) zfu y3 y4) E := by
  have hT := hw.1
  refine zv_loop2 (fun y3 y4 => [(3, iv y3), (4, iv y4), (0, rn w l0), (1, iv l1), (2, iv l2)]) (fun y3 y4 => M0) (fun y3 y4 => ?_) y3 y4
  unfold fb_X11_last_5
  refine zv_iload dX11_last_5 1 rfl ?_
  refine zv_rload_n dX11_last_7 2 rfl ?_
  refine zg_RX11_71 dX11_last_8 g0 ?_
  refine zv_iconst (z := 0) dX11_last_11 ?_
  refine zv_iald dX11_last_12 (zta_11_21 hT g0) (ztl_11_21 hT g0) (by decide) ?_
  refine zv_icmp_ge (tgt := 56) dX11_last_13 (by decide) ?_ ?_
  · exact zv_sub (L' := [(3, iv y3)]) [0] rfl (zv_exit (fun h => hX _ h))
  refine zv_rload_n dX11_last_16 2 rfl ?_
  refine zg_RX11_74 dX11_last_17 g0 ?_
  refine zv_iload dX11_last_20 1 rfl ?_
  refine zv_iald dX11_last_22 (zta_11_22 hT g0) (ztl_11_22 hT g0) (by decide) ?_
  refine zv_iload_n dX11_last_23 3 rfl ?_
  refine zv_icmp_ne (tgt := 50) dX11_last_24 (by decide) ?_ ?_
  · refine zv_iinc dX11_last_50 1 rfl (fun x1 => [(4, iv x1), (3, iv y3), (0, rn w l0), (1, iv l1), (2, iv l2)]) (by decide) (fun _ => rfl) (fun x1 => ?_)
    refine zv_goto (tgt := 5) dX11_last_53 (by decide) ?_
    exact zv_sub (L' := [(3, iv y3), (4, iv x1), (0, rn w l0), (1, iv l1), (2, iv l2)]) [1, 0, 2, 3, 4] rfl (zv_exit (fun h => h))
  refine zv_iload_n dX11_last_27 4 rfl ?_
  refine zv_joinS1 (fun r => r) 42 (fun x3 => [(4, iv x3), (0, rn w l0), (1, iv l1), (2, iv l2)]) (fun x3 => []) (fun x3 => M0) ?_ (fun x3 => ?_)
  · refine zv_if_lt (tgt := 42) dX11_last_28 (by decide) ?_ ?_
    · exact zv_sub (L' := [(4, iv y4), (0, rn w l0), (1, iv l1), (2, iv l2)]) [1, 2, 3, 4] rfl (zv_exit (fun h => h))
    refine zv_rload_n dX11_last_31 2 rfl ?_
    refine zg_RX11_80 dX11_last_32 g0 ?_
    refine zv_iload dX11_last_35 1 rfl ?_
    refine zv_iald dX11_last_37 (zta_11_24 hT g0) (ztl_11_24 hT g0) (by decide) ?_
    refine zv_iload_n dX11_last_38 4 rfl ?_
    refine zv_icmp_ne (tgt := 50) dX11_last_39 (by decide) ?_ ?_
    · refine zv_iinc dX11_last_50 1 rfl (fun x2 => [(4, iv x2), (3, iv y3), (0, rn w l0), (1, iv l1), (2, iv l2)]) (by decide) (fun _ => rfl) (fun x2 => ?_)
      refine zv_goto (tgt := 5) dX11_last_53 (by decide) ?_
      exact zv_sub (L' := [(3, iv y3), (4, iv x2), (0, rn w l0), (1, iv l1), (2, iv l2)]) [1, 0, 2, 3, 4] rfl (zv_exit (fun h => h))
    exact zv_sub (L' := [(4, iv y4), (0, rn w l0), (1, iv l1), (2, iv l2)]) [1, 2, 3, 4] rfl (zv_exit (fun h => h))
  refine zv_rload_n dX11_last_42 1 rfl ?_
  refine zg_RX11_77 dX11_last_43 g0 ?_
  refine zv_iload dX11_last_46 0 rfl ?_
  refine zv_iald dX11_last_48 (zta_11_23 hT g0) (ztl_11_23 hT g0) (by decide) ?_
  refine zv_istore_n (i := 3) (by rfl) dX11_last_49 (fun x4 => [(3, iv x4), (4, iv x3), (0, rn w l0), (1, iv l1), (2, iv l2)]) (by decide) (fun _ => rfl) (fun x4 => ?_)
  refine zv_iinc dX11_last_50 1 rfl (fun x5 => [(4, iv x5), (3, iv x4), (0, rn w l0), (1, iv l1), (2, iv l2)]) (by decide) (fun _ => rfl) (fun x5 => ?_)
  refine zv_goto (tgt := 5) dX11_last_53 (by decide) ?_
  exact zv_sub (L' := [(3, iv x4), (4, iv x5), (0, rn w l0), (1, iv l1), (2, iv l2)]) [1, 0, 2, 3, 4] rfl (zv_exit (fun h => h))
theorem c_X11_last (l : Launch) {w : zW} (hw : zWk w)  (p0 : Nat) (p1 : Int) (p2 : Int) (M0 : zM) (hp0 : ztag w.1 p0 = 12) : zCn l yX11_last cX11_last 5 (some .int) (0) 1 w [rn w p0, iv p1, iv p2] M0 ((f_X11_last w.1 p0 p1 p2 M0).map fun v => (M0, v)) := by
  have hT := hw.1
  refine zCn_ofP (own := RX11) (by decide) rfl hw (Nat.le_of_ble_eq_true rfl) [(0, rn w p0), (1, iv p1), (2, iv p2)] rfl ?_
  intro κ hl
  subst hl
  unfold f_X11_last
  refine zv_iconst (z := 0) dX11_last_0 ?_
  refine zv_istore_np (L' := [(3, iv 0), (0, rn w p0), (1, iv p1), (2, iv p2)]) (by rfl) dX11_last_1 (by decide) rfl ?_
  refine zv_iconst (z := 0) dX11_last_2 ?_
  refine zv_istore_p (L' := [(4, iv 0), (3, iv 0), (0, rn w p0), (1, iv p1), (2, iv p2)]) dX11_last_3 (by decide) rfl ?_
  refine zv_join1 56 (fun x6 => [(3, iv x6)]) (fun x6 => []) (fun x6 => M0) (zv_sub (L' := [(3, iv 0), (4, iv 0), (0, rn w p0), (1, iv p1), (2, iv p2)]) [1, 0, 2, 3, 4] rfl (vl_X11_last_5 hw p0 p1 p2 hp0 M0 _ (fun _ h => h) 0 0)) (fun x6 => ?_)
  refine zv_iload_n dX11_last_56 0 rfl ?_
  exact zv_ret (fun h => h) (zv_iret dX11_last_57)
def fb_X11_divisor_17 (k : zK)  (M0 : zM) (y4 : Int) (y6 : Int) : Option ((Int × Int) ⊕ (Int)) :=
  zbl y6 0 (y6 ≤ 0) (some (.inr y4)) (zgd ((0 ≤ y4 ∧ y4 ≤ 9223372036854775807) ∧ 0 < y6 ∧ y6 ≤ 9223372036854775807) (zlt (y4 % y6) (fun x2 => some (.inl (y6, x2)))))
def f_X11_divisor (k : zK)  (p0 : Int) (p2 : Int) (M0 : zM) : Option Int :=
  zb1 (zbl p0 0 (0 ≤ p0) (some (p0)) (some (-p0))) (fun x1 => zb1 (zw2 (fb_X11_divisor_17 k M0) zfu x1 p2) (fun x3 => some x3))
theorem vl_X11_divisor_17 {κ : zC} {w : zW} (hw : zWk w)    (M0 : zM) (E : (Int) → Prop) (hX : ∀ (u4 : Int), E u4 → zB cX11_divisor RX11 10 (some .long) κ w (0, 0, 0) 42 [(4, jv u4)] [] M0)  (y4 : Int) (y6 : Int) :
    zV cX11_divisor RX11 10 (some .long) κ w (0, 0, 0) 17 [(4, jv y4), (6, jv y6)] [] M0 (zw2 (fb_X11_divisor_17 w.1 M0) zfu y4 y6) E := by
  have hT := hw.1
  refine zv_loop2 (fun y4 y6 => [(4, jv y4), (6, jv y6)]) (fun y4 y6 => M0) (fun y4 y6 => ?_) y4 y6
  unfold fb_X11_divisor_17
  refine zv_lload dX11_divisor_17 1 rfl ?_
  refine zv_lconst (z := 0) dX11_divisor_19 (by decide) ?_
  refine zv_lcmp_le (tgt := 42) dX11_divisor_20 dX11_divisor_21 (by decide) ?_ ?_
  · exact zv_sub (L' := [(4, jv y4)]) [0] rfl (zv_exit (fun h => hX _ h))
  refine zv_lload dX11_divisor_24 0 rfl ?_
  refine zv_lload dX11_divisor_26 1 rfl ?_
  refine zv_lrem dX11_divisor_28 ?_
  refine zv_lstore dX11_divisor_29 (fun x2 => [(8, jv x2), (4, jv y4), (6, jv y6)]) (by decide) (fun _ => rfl) (fun x2 => ?_)
  refine zv_lload dX11_divisor_31 2 rfl ?_
  refine zv_lstore_p (L' := [(4, jv y6), (8, jv x2), (6, jv y6)]) dX11_divisor_33 (by decide) rfl ?_
  refine zv_lload dX11_divisor_35 1 rfl ?_
  refine zv_lstore_p (L' := [(6, jv x2), (4, jv y6), (8, jv x2)]) dX11_divisor_37 (by decide) rfl ?_
  refine zv_goto (tgt := 17) dX11_divisor_39 (by decide) ?_
  exact zv_sub (L' := [(4, jv y6), (6, jv x2)]) [1, 0] rfl (zv_exit (fun h => h))
theorem c_X11_divisor (l : Launch) {w : zW} (hw : zWk w)  (p0 : Int) (p2 : Int) (M0 : zM)  : zCn l yX11_divisor cX11_divisor 10 (some .long) (0) 2 w [jv p0, jv p2] M0 ((f_X11_divisor w.1 p0 p2 M0).map fun v => (M0, v)) := by
  have hT := hw.1
  refine zCn_ofP (own := RX11) (by decide) rfl hw (Nat.le_of_ble_eq_true rfl) [(0, jv p0), (2, jv p2)] rfl ?_
  intro κ hl
  subst hl
  unfold f_X11_divisor
  refine zv_lload_n dX11_divisor_0 0 rfl ?_
  refine zv_lconst (z := 0) dX11_divisor_1 (by decide) ?_
  refine zv_join1 12 (fun x1 => [(2, jv p2)]) (fun x1 => [jv x1]) (fun x1 => M0) ?_ (fun x1 => ?_)
  · refine zv_lcmp_ge (tgt := 11) dX11_divisor_2 dX11_divisor_3 (by decide) ?_ ?_
    · refine zv_lload_n dX11_divisor_11 0 rfl ?_
      exact zv_sub (L' := [(2, jv p2)]) [1] rfl (zv_exit (fun h => h))
    refine zv_lload_n dX11_divisor_6 0 rfl ?_
    refine zv_lneg dX11_divisor_7 ?_
    refine zv_goto (tgt := 12) dX11_divisor_8 (by decide) ?_
    exact zv_sub (L' := [(2, jv p2)]) [1] rfl (zv_exit (fun h => h))
  refine zv_lstore_p (L' := [(4, jv x1), (2, jv p2)]) dX11_divisor_12 (by decide) rfl ?_
  refine zv_lload_n dX11_divisor_14 1 rfl ?_
  refine zv_lstore_p (L' := [(6, jv p2), (4, jv x1), (2, jv p2)]) dX11_divisor_15 (by decide) rfl ?_
  refine zv_join1 42 (fun x3 => [(4, jv x3)]) (fun x3 => []) (fun x3 => M0) (zv_sub (L' := [(4, jv x1), (6, jv p2)]) [1, 0] rfl (vl_X11_divisor_17 hw M0 _ (fun _ h => h) x1 p2)) (fun x3 => ?_)
  refine zv_lload dX11_divisor_42 0 rfl ?_
  exact zv_ret (fun h => h) (zv_lret dX11_divisor_44)
def f_X11_lowest (k : zK)  (p0 : Int) (p2 : Int) (p4 : Int) (M0 : zM) : Option Int :=
  zb1 (f_X11_divisor k p0 p2 M0) (fun v1 => zbr p4 0 (¬ p4 = 0) (zgd ((0 ≤ p2 ∧ p2 ≤ 9223372036854775807) ∧ 0 < v1 ∧ v1 ≤ 9223372036854775807) (some (p2 / v1))) (zgd ((0 ≤ p0 ∧ p0 ≤ 9223372036854775807) ∧ 0 < v1 ∧ v1 ≤ 9223372036854775807) (some (p0 / v1))))
theorem c_X11_lowest (l : Launch) {w : zW} (hw : zWk w)  (p0 : Int) (p2 : Int) (p4 : Int) (M0 : zM)  : zCn l yX11_lowest cX11_lowest 7 (some .long) (1) 2 w [jv p0, jv p2, iv p4] M0 ((f_X11_lowest w.1 p0 p2 p4 M0).map fun v => (M0, v)) := by
  have hT := hw.1
  refine zCn_ofP (own := RX11) (by decide) rfl hw (Nat.le_of_ble_eq_true rfl) [(0, jv p0), (2, jv p2), (4, iv p4)] rfl ?_
  intro κ hl
  subst hl
  unfold f_X11_lowest
  refine zv_lload_n dX11_lowest_0 0 rfl ?_
  refine zv_lload_n dX11_lowest_1 1 rfl ?_
  refine zv_pc (zv_callSl [jv p0, jv p2] (c_X11_divisor κ.2.1 hw p0 p2 M0 ) zmd_X11_divisor zwT_X11_divisor zwM_RX11_397 rfl (by decide) rfl (Nat.le_of_ble_eq_true rfl) dX11_lowest_2 (fun mh2 v1 h2 => ?_))
  obtain rfl := zpuE h2
  refine zv_lstore_p (L' := [(5, jv v1), (0, jv p0), (2, jv p2), (4, iv p4)]) dX11_lowest_5 (by decide) rfl ?_
  refine zv_iload dX11_lowest_7 3 rfl ?_
  refine zv_if_ne (tgt := 19) dX11_lowest_9 (by decide) ?_ ?_
  · refine zv_lload_n dX11_lowest_19 2 rfl ?_
    refine zv_lload dX11_lowest_20 0 rfl ?_
    refine zv_ldiv dX11_lowest_22 ?_
    exact zv_ret (fun h => h) (zv_lret dX11_lowest_23)
  refine zv_lload_n dX11_lowest_12 1 rfl ?_
  refine zv_lload dX11_lowest_13 0 rfl ?_
  refine zv_ldiv dX11_lowest_15 ?_
  refine zv_goto (tgt := 23) dX11_lowest_16 (by decide) ?_
  exact zv_ret (fun h => h) (zv_lret dX11_lowest_23)
def f_X11_carried (k : zK)  (p0 : Nat) (p1 : Int) (p2 : Int) (M0 : zM) : Option (zM × Int) :=
  zb1 (f_X11_isFind k p0 p1 M0) (fun v1 => zbr v1 0 (v1 = 0) (some (M0, (-1))) (zb1 (f_X11_within k p2 0 1 M0) (fun v3 => zbr v3 0 (¬ v3 = 0) (zgd (0 ≤ p1 ∧ p1 < 240) (zgd (0 ≤ p1 ∧ p1 < 240) (zgd (0 ≤ p1 ∧ p1 < 240) (zb1 (f_X11_findLive k p0 (M0 (zfr k p0 10) p1.toNat) (M0 (zfr k p0 12) p1.toNat) (M0 (zfr k p0 13) p1.toNat) M0) (fun M5 => zgd (0 ≤ p1 ∧ p1 < 240) (zb1 (f_X11_last k p0 5 (M5 (zfr k p0 11) p1.toNat) M5) (fun v6 => zgd (zr v6) (zlt (v6 * (M5 p0 60)) (fun x8 => zlt (x8 + (((100 - v6) * 256) * (M5 p0 59))) (fun x9 => zbl x9 0 (¬ x9 = 0) (zb1 (f_X11_lowest k x8 x9 p2 M5) (fun v10 => some (M5, v10))) (zgd (zr p2) (some (M5, p2))))))))))))) (some (M0, (-1))))))
set_option maxRecDepth 20000 in
theorem c_X11_carried (l : Launch) {w : zW} (hw : zWk w)  (p0 : Nat) (p1 : Int) (p2 : Int) (M0 : zM) (hp0 : ztag w.1 p0 = 12) : zCn l yX11_carried cX11_carried 9 (some .long) (4) 2 w [rn w p0, iv p1, iv p2] M0 (f_X11_carried w.1 p0 p1 p2 M0) := by
  have hT := hw.1
  refine zCn_of (own := RX11) (by decide) rfl hw (Nat.le_of_ble_eq_true rfl) [(0, rn w p0), (1, iv p1), (2, iv p2)] rfl ?_
  intro κ hl
  subst hl
  unfold f_X11_carried
  refine zv_rload_n dX11_carried_0 0 rfl ?_
  refine zv_iload_n dX11_carried_1 1 rfl ?_
  refine zv_pc (zv_callVi [iv p1] (c_X11_isFind κ.2.1 hw p0 p1 M0 hp0) zmd_X11_isFind zwI_X11_isFind zwS_X11_isFind zwM_RX11_446 zcd_11 hp0 rfl (by decide) rfl (Nat.le_of_ble_eq_true rfl) dX11_carried_2 (fun mh2 v1 h2 => ?_))
  obtain rfl := zpuE h2
  refine zv_if_eq (tgt := 17) dX11_carried_5 (by decide) ?_ ?_
  · refine zv_ldc2 (z := (-1)) dX11_carried_17 zwK_RX11_211 (by decide) ?_
    exact zv_ret (fun h => h) (zv_lret dX11_carried_20)
  refine zv_iload_n dX11_carried_8 2 rfl ?_
  refine zv_iconst (z := 0) dX11_carried_9 ?_
  refine zv_iconst (z := 1) dX11_carried_10 ?_
  refine zv_pc (zv_callSi [iv p2, iv 0, iv 1] (c_X11_within κ.2.1 hw p2 0 1 M0 ) zmd_X11_within zwT_X11_within zwM_RX11_183 rfl (by decide) rfl (Nat.le_of_ble_eq_true rfl) dX11_carried_11 (fun mh4 v3 h4 => ?_))
  obtain rfl := zpuE h4
  refine zv_if_ne (tgt := 21) dX11_carried_14 (by decide) ?_ ?_
  · refine zv_rload_n dX11_carried_21 0 rfl ?_
    refine zv_rload_n dX11_carried_22 0 rfl ?_
    refine zg_RX11_40 dX11_carried_23 hp0 ?_
    refine zv_iload_n dX11_carried_26 1 rfl ?_
    refine zv_iald dX11_carried_27 (zta_11_10 hT hp0) (ztl_11_10 hT hp0) (by decide) ?_
    refine zv_rload_n dX11_carried_28 0 rfl ?_
    refine zg_RX11_46 dX11_carried_29 hp0 ?_
    refine zv_iload_n dX11_carried_32 1 rfl ?_
    refine zv_iald dX11_carried_33 (zta_11_12 hT hp0) (ztl_11_12 hT hp0) (by decide) ?_
    refine zv_rload_n dX11_carried_34 0 rfl ?_
    refine zg_RX11_49 dX11_carried_35 hp0 ?_
    refine zv_iload_n dX11_carried_38 1 rfl ?_
    refine zv_iald dX11_carried_39 (zta_11_13 hT hp0) (ztl_11_13 hT hp0) (by decide) ?_
    refine zv_vc (zv_callVv [iv (M0 (zfr w.1 p0 10) p1.toNat), iv (M0 (zfr w.1 p0 12) p1.toNat), iv (M0 (zfr w.1 p0 13) p1.toNat)] (c_X11_findLive κ.2.1 hw p0 (M0 (zfr w.1 p0 10) p1.toNat) (M0 (zfr w.1 p0 12) p1.toNat) (M0 (zfr w.1 p0 13) p1.toNat) M0 hp0) zmd_X11_findLive zwI_X11_findLive zwS_X11_findLive zwM_RX11_411 zcd_11 hp0 rfl (by decide) rfl (Nat.le_of_ble_eq_true rfl) dX11_carried_40 (fun M5 _ _ => ?_))
    refine zv_rload_n dX11_carried_43 0 rfl ?_
    refine zv_iconst (z := 5) dX11_carried_44 ?_
    refine zv_rload_n dX11_carried_45 0 rfl ?_
    refine zg_RX11_43 dX11_carried_46 hp0 ?_
    refine zv_iload_n dX11_carried_49 1 rfl ?_
    refine zv_iald dX11_carried_50 (zta_11_11 hT hp0) (ztl_11_11 hT hp0) (by decide) ?_
    refine zv_pc (zv_callVi [iv 5, iv (M5 (zfr w.1 p0 11) p1.toNat)] (c_X11_last κ.2.1 hw p0 5 (M5 (zfr w.1 p0 11) p1.toNat) M5 hp0) zmd_X11_last zwI_X11_last zwS_X11_last zwM_RX11_326 zcd_11 hp0 rfl (by decide) rfl (Nat.le_of_ble_eq_true rfl) dX11_carried_51 (fun mh7 v6 h7 => ?_))
    obtain rfl := zpuE h7
    refine zv_i2l dX11_carried_54 ?_
    refine zv_lstore_np (L' := [(3, jv v6), (0, rn w p0), (1, iv p1), (2, iv p2)]) (by rfl) dX11_carried_55 (by decide) rfl ?_
    refine zv_lload_n dX11_carried_56 0 rfl ?_
    refine zv_rload_n dX11_carried_57 1 rfl ?_
    refine zg_RX11_404 dX11_carried_58 hp0 ?_
    refine zv_lmul dX11_carried_61 ?_
    refine zv_lstore dX11_carried_62 (fun x8 => [(5, jv x8), (3, jv v6), (0, rn w p0), (1, iv p1), (2, iv p2)]) (by decide) (fun _ => rfl) (fun x8 => ?_)
    refine zv_lload dX11_carried_64 0 rfl ?_
    refine zv_ldc2 (z := 100) dX11_carried_66 zwK_RX11_449 (by decide) ?_
    refine zv_lload_n dX11_carried_69 1 rfl ?_
    refine zv_lsub dX11_carried_70 ?_
    refine zv_ldc2 (z := 256) dX11_carried_71 zwK_RX11_451 (by decide) ?_
    refine zv_lmul dX11_carried_74 ?_
    refine zv_rload_n dX11_carried_75 2 rfl ?_
    refine zg_RX11_401 dX11_carried_76 hp0 ?_
    refine zv_lmul dX11_carried_79 ?_
    refine zv_ladd dX11_carried_80 ?_
    refine zv_lstore dX11_carried_81 (fun x9 => [(7, jv x9), (5, jv x8), (3, jv v6), (0, rn w p0), (1, iv p1), (2, iv p2)]) (by decide) (fun _ => rfl) (fun x9 => ?_)
    refine zv_lload dX11_carried_83 0 rfl ?_
    refine zv_lconst (z := 0) dX11_carried_85 (by decide) ?_
    refine zv_lcmp_ne (tgt := 95) dX11_carried_86 dX11_carried_87 (by decide) ?_ ?_
    · refine zv_lload dX11_carried_95 1 rfl ?_
      refine zv_lload dX11_carried_97 0 rfl ?_
      refine zv_iload_n dX11_carried_99 5 rfl ?_
      refine zv_pc (zv_callSl [jv x8, jv x9, iv p2] (c_X11_lowest κ.2.1 hw x8 x9 p2 M5 ) zmd_X11_lowest zwT_X11_lowest zwM_RX11_415 rfl (by decide) rfl (Nat.le_of_ble_eq_true rfl) dX11_carried_100 (fun mh11 v10 h11 => ?_))
      obtain rfl := zpuE h11
      exact zv_ret (fun h => h) (zv_lret dX11_carried_103)
    refine zv_iload_n dX11_carried_90 5 rfl ?_
    refine zv_i2l dX11_carried_91 ?_
    refine zv_goto (tgt := 103) dX11_carried_92 (by decide) ?_
    exact zv_ret (fun h => h) (zv_lret dX11_carried_103)
  refine zv_ldc2 (z := (-1)) dX11_carried_17 zwK_RX11_211 (by decide) ?_
  exact zv_ret (fun h => h) (zv_lret dX11_carried_20)
def f_X11_catches (k : zK)  (p0 : Nat) (M0 : zM) : Option Int :=
  zb1 (f_X11_last k p0 6 (-1) M0) (fun v1 => some v1)
theorem c_X11_catches (l : Launch) {w : zW} (hw : zWk w)  (p0 : Nat) (M0 : zM) (hp0 : ztag w.1 p0 = 12) : zCn l yX11_catches cX11_catches 1 (some .int) (1) 1 w [rn w p0] M0 ((f_X11_catches w.1 p0 M0).map fun v => (M0, v)) := by
  have hT := hw.1
  refine zCn_ofP (own := RX11) (by decide) rfl hw (Nat.le_of_ble_eq_true rfl) [(0, rn w p0)] rfl ?_
  intro κ hl
  subst hl
  unfold f_X11_catches
  refine zv_rload_n dX11_catches_0 0 rfl ?_
  refine zv_bipush (z := 6) dX11_catches_1 (by decide) ?_
  refine zv_iconst (z := (-1)) dX11_catches_3 ?_
  refine zv_pc (zv_callVi [iv 6, iv (-1)] (c_X11_last κ.2.1 hw p0 6 (-1) M0 hp0) zmd_X11_last zwI_X11_last zwS_X11_last zwM_RX11_326 zcd_11 hp0 rfl (by decide) rfl (Nat.le_of_ble_eq_true rfl) dX11_catches_4 (fun mh2 v1 h2 => ?_))
  obtain rfl := zpuE h2
  exact zv_ret (fun h => h) (zv_iret dX11_catches_7)
def fb_X11_isPlace_2 (k : zK)  (l0 : Nat) (l1 : Int) (M0 : zM) (y2 : Int) : Option ((Int) ⊕ ((Unit) ⊕ Int)) :=
  zgd (0 ≤ (0 : Int) ∧ (0 : Int) < 4) (zbr y2 (M0 (zfr k l0 3) (Int.toNat 0)) (M0 (zfr k l0 3) (Int.toNat 0) ≤ y2) (some (.inr (.inl ()))) (zgd (0 ≤ y2 ∧ y2 < 40) (zbr (M0 (zfr k l0 14) y2.toNat) l1 (¬ M0 (zfr k l0 14) y2.toNat = l1) (zlt (y2 + 1) (fun x1 => some (.inl (x1)))) (some (.inr (.inr 1))))))
def f_X11_isPlace (k : zK)  (p0 : Nat) (p1 : Int) (M0 : zM) : Option Int :=
  zsp0 (zw1 (fb_X11_isPlace_2 k p0 p1 M0) zfu 0) (fun r => some ((r))) (some 0)
theorem vl_X11_isPlace_2 {κ : zC} {w : zW} (hw : zWk w)  (l0 : Nat) (l1 : Int) (g0 : ztag w.1 l0 = 12) (M0 : zM) (E : ((Unit) ⊕ Int) → Prop) (hX : E (.inl ()) → zB cX11_isPlace RX11 3 (some .boolean) κ w (0, 0, 0) 30 [] [] M0) (hR : ∀ r, E (.inr r) → zRt κ w (0, 0, 0) 1 (M0, r)) (y2 : Int) :
    zV cX11_isPlace RX11 3 (some .boolean) κ w (0, 0, 0) 2 [(2, iv y2), (0, rn w l0), (1, iv l1)] [] M0 (zw1 (fb_X11_isPlace_2 w.1 l0 l1 M0) zfu y2) E := by
  have hT := hw.1
  refine zv_loop1 (fun y2 => [(2, iv y2), (0, rn w l0), (1, iv l1)]) (fun y2 => M0) (fun y2 => ?_) y2
  unfold fb_X11_isPlace_2
  refine zv_iload_n dX11_isPlace_2 0 rfl ?_
  refine zv_rload_n dX11_isPlace_3 1 rfl ?_
  refine zg_RX11_19 dX11_isPlace_4 g0 ?_
  refine zv_iconst (z := 0) dX11_isPlace_7 ?_
  refine zv_iald dX11_isPlace_8 (zta_11_3 hT g0) (ztl_11_3 hT g0) (by decide) ?_
  refine zv_icmp_ge (tgt := 30) dX11_isPlace_9 (by decide) ?_ ?_
  · exact zv_sub (L' := []) [] rfl (zv_exit (fun h => hX  h))
  refine zv_rload_n dX11_isPlace_12 1 rfl ?_
  refine zg_RX11_52 dX11_isPlace_13 g0 ?_
  refine zv_iload_n dX11_isPlace_16 0 rfl ?_
  refine zv_iald dX11_isPlace_17 (zta_11_14 hT g0) (ztl_11_14 hT g0) (by decide) ?_
  refine zv_iload_n dX11_isPlace_18 2 rfl ?_
  refine zv_icmp_ne (tgt := 24) dX11_isPlace_19 (by decide) ?_ ?_
  · refine zv_iinc dX11_isPlace_24 0 rfl (fun x1 => [(2, iv x1), (0, rn w l0), (1, iv l1)]) (by decide) (fun _ => rfl) (fun x1 => ?_)
    refine zv_goto (tgt := 2) dX11_isPlace_27 (by decide) ?_
    exact zv_sub (L' := [(2, iv x1), (0, rn w l0), (1, iv l1)]) [0, 1, 2] rfl (zv_exit (fun h => h))
  refine zv_iconst (z := 1) dX11_isPlace_22 ?_
  exact zv_ret (fun h => hR _ h) (zv_zrB (by decide) dX11_isPlace_23)
theorem c_X11_isPlace (l : Launch) {w : zW} (hw : zWk w)  (p0 : Nat) (p1 : Int) (M0 : zM) (hp0 : ztag w.1 p0 = 12) : zCn l yX11_isPlace cX11_isPlace 3 (some .boolean) (0) 1 w [rn w p0, iv p1] M0 ((f_X11_isPlace w.1 p0 p1 M0).map fun v => (M0, v)) := by
  have hT := hw.1
  refine zCn_ofP (own := RX11) (by decide) rfl hw (Nat.le_of_ble_eq_true rfl) [(0, rn w p0), (1, iv p1)] rfl ?_
  intro κ hl
  subst hl
  unfold f_X11_isPlace
  refine zv_iconst (z := 0) dX11_isPlace_0 ?_
  refine zv_istore_np (L' := [(2, iv 0), (0, rn w p0), (1, iv p1)]) (by rfl) dX11_isPlace_1 (by decide) rfl ?_
  refine zv_joinS0 (fun r => (r)) 30 ([]) ([]) (M0) (zv_sub (L' := [(2, iv 0), (0, rn w p0), (1, iv p1)]) [0, 1, 2] rfl (vl_X11_isPlace_2 hw p0 p1 hp0 M0 _ (fun h => h) (fun _ h => ((fun h => h)) h) 0)) (?_)
  refine zv_iconst (z := 0) dX11_isPlace_30 ?_
  exact zv_ret (fun h => h) (zv_zrB (by decide) dX11_isPlace_31)
def fb_X11_isSure_33 (k : zK)  (l0 : Nat) (l1 : Int) (l2 : Int) (l3 : Int) (M0 : zM) (y4 : Int) : Option ((Int) ⊕ ((Unit) ⊕ Int)) :=
  zbr y4 4 (4 ≤ y4) (some (.inr (.inl ()))) (zb1 (f_X11_beside k l1 y4 M0) (fun v6 => zbr v6 0 (v6 < 0) (zlt (y4 + 1) (fun x8 => some (.inl (x8)))) (zbr v6 l2 (v6 = l2) (zlt (y4 + 1) (fun x9 => some (.inl (x9)))) (zb1 (f_X11_lowOf k l0 v6 M0) (fun v10 => zbr v10 l3 (l3 ≤ v10) (zlt (y4 + 1) (fun x12 => some (.inl (x12)))) (some (.inr (.inr 0))))))))
def f_X11_isSure (k : zK)  (p0 : Nat) (p1 : Int) (M0 : zM) : Option Int :=
  zgd (0 ≤ p1 ∧ p1 < 256) (zlt (M0 (zfr k p0 52) p1.toNat) (fun x1 => zbr x1 0 (0 ≤ x1) (zb1 (f_X11_highOf k p0 x1 M0) (fun v2 => zb1 (f_X11_lowOf k p0 p1 M0) (fun v4 => zbr v2 v4 (v2 < v4) (zsp0 (zw1 (fb_X11_isSure_33 k p0 p1 x1 v2 M0) zfu 0) (fun r => some ((r))) (some 1)) (some 0)))) (some 0)))
theorem vl_X11_isSure_33 {κ : zC} {w : zW} (hw : zWk w)  (l0 : Nat) (l1 : Int) (l2 : Int) (l3 : Int) (g0 : ztag w.1 l0 = 12) (M0 : zM) (E : ((Unit) ⊕ Int) → Prop) (hX : E (.inl ()) → zB cX11_isSure RX11 6 (some .int) κ w (0, 0, 2) 76 [] [] M0) (hR : ∀ r, E (.inr r) → zRt κ w (0, 0, 2) 1 (M0, r)) (y4 : Int) :
    zV cX11_isSure RX11 6 (some .int) κ w (0, 0, 2) 33 [(4, iv y4), (0, rn w l0), (1, iv l1), (2, iv l2), (3, iv l3)] [] M0 (zw1 (fb_X11_isSure_33 w.1 l0 l1 l2 l3 M0) zfu y4) E := by
  have hT := hw.1
  refine zv_loop1 (fun y4 => [(4, iv y4), (0, rn w l0), (1, iv l1), (2, iv l2), (3, iv l3)]) (fun y4 => M0) (fun y4 => ?_) y4
  unfold fb_X11_isSure_33
  refine zv_iload dX11_isSure_33 0 rfl ?_
  refine zv_iconst (z := 4) dX11_isSure_35 ?_
  refine zv_icmp_ge (tgt := 76) dX11_isSure_36 (by decide) ?_ ?_
  · exact zv_sub (L' := []) [] rfl (zv_exit (fun h => hX  h))
  refine zv_iload_n dX11_isSure_39 2 rfl ?_
  refine zv_iload dX11_isSure_40 0 rfl ?_
  refine zv_pc (zv_callSi [iv l1, iv y4] (c_X11_beside κ.2.1 hw l1 y4 M0 ) zmd_X11_beside zwT_X11_beside zwM_RX11_353 rfl (by decide) rfl (Nat.le_of_ble_eq_true rfl) dX11_isSure_42 (fun mh7 v6 h7 => ?_))
  obtain rfl := zpuE h7
  refine zv_istore_p (L' := [(5, iv v6), (4, iv y4), (0, rn w l0), (1, iv l1), (2, iv l2), (3, iv l3)]) dX11_isSure_45 (by decide) rfl ?_
  refine zv_iload dX11_isSure_47 0 rfl ?_
  refine zv_if_lt (tgt := 70) dX11_isSure_49 (by decide) ?_ ?_
  · refine zv_iinc dX11_isSure_70 1 rfl (fun x8 => [(4, iv x8), (5, iv v6), (0, rn w l0), (1, iv l1), (2, iv l2), (3, iv l3)]) (by decide) (fun _ => rfl) (fun x8 => ?_)
    refine zv_goto (tgt := 33) dX11_isSure_73 (by decide) ?_
    exact zv_sub (L' := [(4, iv x8), (0, rn w l0), (1, iv l1), (2, iv l2), (3, iv l3)]) [0, 2, 3, 4, 5] rfl (zv_exit (fun h => h))
  refine zv_iload dX11_isSure_52 0 rfl ?_
  refine zv_iload_n dX11_isSure_54 4 rfl ?_
  refine zv_icmp_eq (tgt := 70) dX11_isSure_55 (by decide) ?_ ?_
  · refine zv_iinc dX11_isSure_70 1 rfl (fun x9 => [(4, iv x9), (5, iv v6), (0, rn w l0), (1, iv l1), (2, iv l2), (3, iv l3)]) (by decide) (fun _ => rfl) (fun x9 => ?_)
    refine zv_goto (tgt := 33) dX11_isSure_73 (by decide) ?_
    exact zv_sub (L' := [(4, iv x9), (0, rn w l0), (1, iv l1), (2, iv l2), (3, iv l3)]) [0, 2, 3, 4, 5] rfl (zv_exit (fun h => h))
  refine zv_rload_n dX11_isSure_58 2 rfl ?_
  refine zv_iload dX11_isSure_59 0 rfl ?_
  refine zv_pc (zv_callVi [iv v6] (c_X11_lowOf κ.2.1 hw l0 v6 M0 g0) zmd_X11_lowOf zwI_X11_lowOf zwS_X11_lowOf zwM_RX11_347 zcd_11 g0 rfl (by decide) rfl (Nat.le_of_ble_eq_true rfl) dX11_isSure_61 (fun mh11 v10 h11 => ?_))
  obtain rfl := zpuE h11
  refine zv_iload_n dX11_isSure_64 5 rfl ?_
  refine zv_icmp_ge (tgt := 70) dX11_isSure_65 (by decide) ?_ ?_
  · refine zv_iinc dX11_isSure_70 1 rfl (fun x12 => [(4, iv x12), (5, iv v6), (0, rn w l0), (1, iv l1), (2, iv l2), (3, iv l3)]) (by decide) (fun _ => rfl) (fun x12 => ?_)
    refine zv_goto (tgt := 33) dX11_isSure_73 (by decide) ?_
    exact zv_sub (L' := [(4, iv x12), (0, rn w l0), (1, iv l1), (2, iv l2), (3, iv l3)]) [0, 2, 3, 4, 5] rfl (zv_exit (fun h => h))
  refine zv_iconst (z := 0) dX11_isSure_68 ?_
  exact zv_ret (fun h => hR _ h) (zv_iret dX11_isSure_69)
theorem c_X11_isSure (l : Launch) {w : zW} (hw : zWk w)  (p0 : Nat) (p1 : Int) (M0 : zM) (hp0 : ztag w.1 p0 = 12) : zCn l yX11_isSure cX11_isSure 6 (some .int) (2) 1 w [rn w p0, iv p1] M0 ((f_X11_isSure w.1 p0 p1 M0).map fun v => (M0, v)) := by
  have hT := hw.1
  refine zCn_ofP (own := RX11) (by decide) rfl hw (Nat.le_of_ble_eq_true rfl) [(0, rn w p0), (1, iv p1)] rfl ?_
  intro κ hl
  subst hl
  unfold f_X11_isSure
  refine zv_rload_n dX11_isSure_0 0 rfl ?_
  refine zg_RX11_130 dX11_isSure_1 hp0 ?_
  refine zv_iload_n dX11_isSure_4 1 rfl ?_
  refine zv_iald dX11_isSure_5 (zta_11_52 hT hp0) (ztl_11_52 hT hp0) (by decide) ?_
  refine zv_istore_n (i := 2) (by rfl) dX11_isSure_6 (fun x1 => [(2, iv x1), (0, rn w p0), (1, iv p1)]) (by decide) (fun _ => rfl) (fun x1 => ?_)
  refine zv_iload_n dX11_isSure_7 0 rfl ?_
  refine zv_if_ge (tgt := 13) dX11_isSure_8 (by decide) ?_ ?_
  · refine zv_rload_n dX11_isSure_13 1 rfl ?_
    refine zv_iload_n dX11_isSure_14 0 rfl ?_
    refine zv_pc (zv_callVi [iv x1] (c_X11_highOf κ.2.1 hw p0 x1 M0 hp0) zmd_X11_highOf zwI_X11_highOf zwS_X11_highOf zwM_RX11_350 zcd_11 hp0 rfl (by decide) rfl (Nat.le_of_ble_eq_true rfl) dX11_isSure_15 (fun mh3 v2 h3 => ?_))
    obtain rfl := zpuE h3
    refine zv_istore_np (L' := [(3, iv v2), (2, iv x1), (0, rn w p0), (1, iv p1)]) (by rfl) dX11_isSure_18 (by decide) rfl ?_
    refine zv_iload_n dX11_isSure_19 0 rfl ?_
    refine zv_rload_n dX11_isSure_20 2 rfl ?_
    refine zv_iload_n dX11_isSure_21 3 rfl ?_
    refine zv_pc (zv_callVi [iv p1] (c_X11_lowOf κ.2.1 hw p0 p1 M0 hp0) zmd_X11_lowOf zwI_X11_lowOf zwS_X11_lowOf zwM_RX11_347 zcd_11 hp0 rfl (by decide) rfl (Nat.le_of_ble_eq_true rfl) dX11_isSure_22 (fun mh5 v4 h5 => ?_))
    obtain rfl := zpuE h5
    refine zv_icmp_lt (tgt := 30) dX11_isSure_25 (by decide) ?_ ?_
    · refine zv_iconst (z := 0) dX11_isSure_30 ?_
      refine zv_istore_p (L' := [(4, iv 0), (3, iv v2), (2, iv x1), (0, rn w p0), (1, iv p1)]) dX11_isSure_31 (by decide) rfl ?_
      refine zv_joinS0 (fun r => (r)) 76 ([]) ([]) (M0) (zv_sub (L' := [(4, iv 0), (0, rn w p0), (1, iv p1), (2, iv x1), (3, iv v2)]) [0, 3, 4, 2, 1] rfl (vl_X11_isSure_33 hw p0 p1 x1 v2 hp0 M0 _ (fun h => h) (fun _ h => ((fun h => h)) h) 0)) (?_)
      refine zv_iconst (z := 1) dX11_isSure_76 ?_
      exact zv_ret (fun h => h) (zv_iret dX11_isSure_77)
    refine zv_iconst (z := 0) dX11_isSure_28 ?_
    exact zv_ret (fun h => h) (zv_iret dX11_isSure_29)
  refine zv_iconst (z := 0) dX11_isSure_11 ?_
  exact zv_ret (fun h => h) (zv_iret dX11_isSure_12)
def fb_X11_underOf_2 (k : zK)  (l0 : Nat) (l1 : Int) (l2 : Int) (y3 : Int) (M0 : zM) : Option ((Int × zM) ⊕ ((Int × zM) ⊕ (zM × Int))) :=
  zbr y3 99 (99 < y3) (some (.inr (.inr (M0, 100)))) (zb1 (f_X11_findSea k l0 y3 M0) (fun M1 => zbr l2 0 (l2 = 0) (zb1 (f_X11_lowOf k l0 l1 M1) (fun v2 => zbr (M1 l0 49) v2 (M1 l0 49 < v2) (zlt (y3 + 1) (fun x4 => some (.inl (x4, M1)))) (some (.inr (.inr (M1, y3)))))) (zb1 (f_X11_highOf k l0 l1 M1) (fun v5 => zbr (M1 l0 48) v5 (M1 l0 48 < v5) (zlt (y3 + 1) (fun x7 => some (.inl (x7, M1)))) (some (.inr (.inl (y3, M1))))))))
def f_X11_underOf (k : zK)  (p0 : Nat) (p1 : Int) (p2 : Int) (M0 : zM) : Option (zM × Int) :=
  zsp2 (zw2 (fb_X11_underOf_2 k p0 p1 p2) zfu 0 M0) (fun r => some (r)) (fun x8 M9 => some (M9, x8))
theorem vl_X11_underOf_2 {κ : zC} {w : zW} (hw : zWk w)  (l0 : Nat) (l1 : Int) (l2 : Int) (g0 : ztag w.1 l0 = 12)  (E : ((Int × zM) ⊕ (zM × Int)) → Prop) (hX : ∀ (u3 : Int) (M1 : zM), E (.inl (u3, M1)) → zB cX11_underOf RX11 4 (some .int) κ w (0, 0, 2) 29 [(3, iv u3)] [] M1) (hR : ∀ r, E (.inr r) → zRt κ w (0, 0, 2) 1 r) (y3 : Int) (M0 : zM) :
    zV cX11_underOf RX11 4 (some .int) κ w (0, 0, 2) 2 [(3, iv y3), (0, rn w l0), (1, iv l1), (2, iv l2)] [] M0 (zw2 (fb_X11_underOf_2 w.1 l0 l1 l2) zfu y3 M0) E := by
  have hT := hw.1
  refine zv_loop2 (fun y3 M0 => [(3, iv y3), (0, rn w l0), (1, iv l1), (2, iv l2)]) (fun y3 M0 => M0) (fun y3 M0 => ?_) y3 M0
  unfold fb_X11_underOf_2
  refine zv_iload_n dX11_underOf_2 0 rfl ?_
  refine zv_bipush (z := 99) dX11_underOf_3 (by decide) ?_
  refine zv_icmp_gt (tgt := 52) dX11_underOf_5 (by decide) ?_ ?_
  · refine zv_bipush (z := 100) dX11_underOf_52 (by decide) ?_
    exact zv_ret (fun h => hR _ h) (zv_iret dX11_underOf_54)
  refine zv_rload_n dX11_underOf_8 1 rfl ?_
  refine zv_iload_n dX11_underOf_9 0 rfl ?_
  refine zv_vc (zv_callVv [iv y3] (c_X11_findSea κ.2.1 hw l0 y3 M0 g0) zmd_X11_findSea zwI_X11_findSea zwS_X11_findSea zwM_RX11_338 zcd_11 g0 rfl (by decide) rfl (Nat.le_of_ble_eq_true rfl) dX11_underOf_10 (fun M1 _ _ => ?_))
  refine zv_iload_n dX11_underOf_13 3 rfl ?_
  refine zv_if_eq (tgt := 32) dX11_underOf_14 (by decide) ?_ ?_
  · refine zv_rload_n dX11_underOf_32 1 rfl ?_
    refine zg_RX11_332 dX11_underOf_33 g0 ?_
    refine zv_rload_n dX11_underOf_36 1 rfl ?_
    refine zv_iload_n dX11_underOf_37 2 rfl ?_
    refine zv_pc (zv_callVi [iv l1] (c_X11_lowOf κ.2.1 hw l0 l1 M1 g0) zmd_X11_lowOf zwI_X11_lowOf zwS_X11_lowOf zwM_RX11_347 zcd_11 g0 rfl (by decide) rfl (Nat.le_of_ble_eq_true rfl) dX11_underOf_38 (fun mh3 v2 h3 => ?_))
    obtain rfl := zpuE h3
    refine zv_icmp_lt (tgt := 46) dX11_underOf_41 (by decide) ?_ ?_
    · refine zv_iinc dX11_underOf_46 0 rfl (fun x4 => [(3, iv x4), (0, rn w l0), (1, iv l1), (2, iv l2)]) (by decide) (fun _ => rfl) (fun x4 => ?_)
      refine zv_goto (tgt := 2) dX11_underOf_49 (by decide) ?_
      exact zv_sub (L' := [(3, iv x4), (0, rn w l0), (1, iv l1), (2, iv l2)]) [0, 1, 2, 3] rfl (zv_exit (fun h => h))
    refine zv_iload_n dX11_underOf_44 0 rfl ?_
    exact zv_ret (fun h => hR _ h) (zv_iret dX11_underOf_45)
  refine zv_rload_n dX11_underOf_17 1 rfl ?_
  refine zg_RX11_329 dX11_underOf_18 g0 ?_
  refine zv_rload_n dX11_underOf_21 1 rfl ?_
  refine zv_iload_n dX11_underOf_22 2 rfl ?_
  refine zv_pc (zv_callVi [iv l1] (c_X11_highOf κ.2.1 hw l0 l1 M1 g0) zmd_X11_highOf zwI_X11_highOf zwS_X11_highOf zwM_RX11_350 zcd_11 g0 rfl (by decide) rfl (Nat.le_of_ble_eq_true rfl) dX11_underOf_23 (fun mh6 v5 h6 => ?_))
  obtain rfl := zpuE h6
  refine zv_icmp_lt (tgt := 46) dX11_underOf_26 (by decide) ?_ ?_
  · refine zv_iinc dX11_underOf_46 0 rfl (fun x7 => [(3, iv x7), (0, rn w l0), (1, iv l1), (2, iv l2)]) (by decide) (fun _ => rfl) (fun x7 => ?_)
    refine zv_goto (tgt := 2) dX11_underOf_49 (by decide) ?_
    exact zv_sub (L' := [(3, iv x7), (0, rn w l0), (1, iv l1), (2, iv l2)]) [0, 1, 2, 3] rfl (zv_exit (fun h => h))
  exact zv_sub (L' := [(3, iv y3)]) [0] rfl (zv_exit (fun h => hX _ _ h))
theorem c_X11_underOf (l : Launch) {w : zW} (hw : zWk w)  (p0 : Nat) (p1 : Int) (p2 : Int) (M0 : zM) (hp0 : ztag w.1 p0 = 12) : zCn l yX11_underOf cX11_underOf 4 (some .int) (2) 1 w [rn w p0, iv p1, iv p2] M0 (f_X11_underOf w.1 p0 p1 p2 M0) := by
  have hT := hw.1
  refine zCn_of (own := RX11) (by decide) rfl hw (Nat.le_of_ble_eq_true rfl) [(0, rn w p0), (1, iv p1), (2, iv p2)] rfl ?_
  intro κ hl
  subst hl
  unfold f_X11_underOf
  refine zv_iconst (z := 0) dX11_underOf_0 ?_
  refine zv_istore_np (L' := [(3, iv 0), (0, rn w p0), (1, iv p1), (2, iv p2)]) (by rfl) dX11_underOf_1 (by decide) rfl ?_
  refine zv_joinS2 (fun r => r) 29 (fun x8 M9 => [(3, iv x8)]) (fun x8 M9 => []) (fun x8 M9 => M9) (zv_sub (L' := [(3, iv 0), (0, rn w p0), (1, iv p1), (2, iv p2)]) [0, 1, 2, 3] rfl (vl_X11_underOf_2 hw p0 p1 p2 hp0 _ (fun _ _ h => h) (fun _ h => ((fun h => h)) h) 0 M0)) (fun x8 M9 => ?_)
  refine zv_goto (tgt := 44) dX11_underOf_29 (by decide) ?_
  refine zv_iload_n dX11_underOf_44 0 rfl ?_
  exact zv_ret (fun h => h) (zv_iret dX11_underOf_45)
def f_X11_cell (k : zK)  (p0 : Nat) (p1 : Int) (p2 : Int) (M0 : zM) : Option (zM × Int) :=
  zb1 (f_X11_isCell k p1 M0) (fun v1 => zbr v1 0 (v1 = 0) (some (M0, (-1))) (zb1 (f_X11_within k p2 0 10 M0) (fun v3 => zbr v3 0 (¬ v3 = 0) (zb1 (f_X11_findGround k p0 M0) (fun M5 => zgd (zr p2) (if p2 = 0 then (zb1 (f_X11_lowOf k p0 p1 M5) (fun v9 => some (M5, v9))) else (if p2 = 1 then (zb1 (f_X11_highOf k p0 p1 M5) (fun v13 => some (M5, v13))) else (if p2 = 2 then (zgd (0 ≤ p1 ∧ p1 < 256) (some (M5, M5 (zfr k p0 50) p1.toNat))) else (if p2 = 3 then (zgd (0 ≤ p1 ∧ p1 < 256) (some (M5, M5 (zfr k p0 52) p1.toNat))) else (if p2 = 4 then (zgd (0 ≤ p1 ∧ p1 < 256) (some (M5, M5 (zfr k p0 53) p1.toNat))) else (if p2 = 5 then (zb1 (f_X11_isSure k p0 p1 M5) (fun v23 => some (M5, v23))) else (if p2 = 6 then (zbd (f_X11_underOf k p0 p1 0 M5) (fun M28 v27 => some (M28, v27))) else (if p2 = 7 then (zbd (f_X11_underOf k p0 p1 1 M5) (fun M32 v31 => some (M32, v31))) else (if p2 = 8 then (zgd (0 ≤ p1 ∧ p1 < 1024) (some (M5, M5 (zfr k p0 7) p1.toNat))) else (if p2 = 9 then (zb1 (f_X11_isPlace k p0 p1 M5) (fun v37 => zbr v37 0 (v37 = 0) (some (M5, 0)) (some (M5, 1)))) else (zgd (0 ≤ p1 ∧ p1 < 1024) (some (M5, M5 (zfr k p0 8) p1.toNat))))))))))))))) (some (M0, (-1))))))
set_option maxRecDepth 20000 in
theorem c_X11_cell (l : Launch) {w : zW} (hw : zWk w)  (p0 : Nat) (p1 : Int) (p2 : Int) (M0 : zM) (hp0 : ztag w.1 p0 = 12) : zCn l yX11_cell cX11_cell 3 (some .int) (3) 1 w [rn w p0, iv p1, iv p2] M0 (f_X11_cell w.1 p0 p1 p2 M0) := by
  have hT := hw.1
  refine zCn_of (own := RX11) (by decide) rfl hw (Nat.le_of_ble_eq_true rfl) [(0, rn w p0), (1, iv p1), (2, iv p2)] rfl ?_
  intro κ hl
  subst hl
  unfold f_X11_cell
  refine zv_iload_n dX11_cell_0 1 rfl ?_
  refine zv_pc (zv_callSi [iv p1] (c_X11_isCell κ.2.1 hw p1 M0 ) zmd_X11_isCell zwT_X11_isCell zwM_RX11_191 rfl (by decide) rfl (Nat.le_of_ble_eq_true rfl) dX11_cell_1 (fun mh2 v1 h2 => ?_))
  obtain rfl := zpuE h2
  refine zv_if_eq (tgt := 17) dX11_cell_4 (by decide) ?_ ?_
  · refine zv_iconst (z := (-1)) dX11_cell_17 ?_
    exact zv_ret (fun h => h) (zv_iret dX11_cell_18)
  refine zv_iload_n dX11_cell_7 2 rfl ?_
  refine zv_iconst (z := 0) dX11_cell_8 ?_
  refine zv_bipush (z := 10) dX11_cell_9 (by decide) ?_
  refine zv_pc (zv_callSi [iv p2, iv 0, iv 10] (c_X11_within κ.2.1 hw p2 0 10 M0 ) zmd_X11_within zwT_X11_within zwM_RX11_183 rfl (by decide) rfl (Nat.le_of_ble_eq_true rfl) dX11_cell_11 (fun mh4 v3 h4 => ?_))
  obtain rfl := zpuE h4
  refine zv_if_ne (tgt := 19) dX11_cell_14 (by decide) ?_ ?_
  · refine zv_rload_n dX11_cell_19 0 rfl ?_
    refine zv_vc (zv_callVv [] (c_X11_findGround κ.2.1 hw p0 M0 hp0) zmd_X11_findGround zwI_X11_findGround zwS_X11_findGround zwM_RX11_362 zcd_11 hp0 rfl (by decide) rfl (Nat.le_of_ble_eq_true rfl) dX11_cell_20 (fun M5 _ _ => ?_))
    refine zv_iload_n dX11_cell_23 2 rfl ?_
    refine zv_gd (fun h6 => ?_)
    refine zv_ite (fun h7 => ?_) (fun h8 => ?_)
    · refine zv_tin (tgt := 80) dX11_cell_24 h7 (by decide) (by decide) (by decide) rfl (by decide) ?_
      refine zv_rload_n dX11_cell_80 0 rfl ?_
      refine zv_iload_n dX11_cell_81 1 rfl ?_
      refine zv_pc (zv_callVi [iv p1] (c_X11_lowOf κ.2.1 hw p0 p1 M5 hp0) zmd_X11_lowOf zwI_X11_lowOf zwS_X11_lowOf zwM_RX11_347 zcd_11 hp0 rfl (by decide) rfl (Nat.le_of_ble_eq_true rfl) dX11_cell_82 (fun mh10 v9 h10 => ?_))
      obtain rfl := zpuE h10
      exact zv_ret (fun h => h) (zv_iret dX11_cell_85)
    refine zv_ite (fun h11 => ?_) (fun h12 => ?_)
    · refine zv_tin (tgt := 86) dX11_cell_24 h11 (by decide) (by decide) (by decide) rfl (by decide) ?_
      refine zv_rload_n dX11_cell_86 0 rfl ?_
      refine zv_iload_n dX11_cell_87 1 rfl ?_
      refine zv_pc (zv_callVi [iv p1] (c_X11_highOf κ.2.1 hw p0 p1 M5 hp0) zmd_X11_highOf zwI_X11_highOf zwS_X11_highOf zwM_RX11_350 zcd_11 hp0 rfl (by decide) rfl (Nat.le_of_ble_eq_true rfl) dX11_cell_88 (fun mh14 v13 h14 => ?_))
      obtain rfl := zpuE h14
      exact zv_ret (fun h => h) (zv_iret dX11_cell_91)
    refine zv_ite (fun h15 => ?_) (fun h16 => ?_)
    · refine zv_tin (tgt := 92) dX11_cell_24 h15 (by decide) (by decide) (by decide) rfl (by decide) ?_
      refine zv_rload_n dX11_cell_92 0 rfl ?_
      refine zg_RX11_124 dX11_cell_93 hp0 ?_
      refine zv_iload_n dX11_cell_96 1 rfl ?_
      refine zv_iald dX11_cell_97 (zta_11_50 hT hp0) (ztl_11_50 hT hp0) (by decide) ?_
      exact zv_ret (fun h => h) (zv_iret dX11_cell_98)
    refine zv_ite (fun h17 => ?_) (fun h18 => ?_)
    · refine zv_tin (tgt := 99) dX11_cell_24 h17 (by decide) (by decide) (by decide) rfl (by decide) ?_
      refine zv_rload_n dX11_cell_99 0 rfl ?_
      refine zg_RX11_130 dX11_cell_100 hp0 ?_
      refine zv_iload_n dX11_cell_103 1 rfl ?_
      refine zv_iald dX11_cell_104 (zta_11_52 hT hp0) (ztl_11_52 hT hp0) (by decide) ?_
      exact zv_ret (fun h => h) (zv_iret dX11_cell_105)
    refine zv_ite (fun h19 => ?_) (fun h20 => ?_)
    · refine zv_tin (tgt := 106) dX11_cell_24 h19 (by decide) (by decide) (by decide) rfl (by decide) ?_
      refine zv_rload_n dX11_cell_106 0 rfl ?_
      refine zg_RX11_133 dX11_cell_107 hp0 ?_
      refine zv_iload_n dX11_cell_110 1 rfl ?_
      refine zv_iald dX11_cell_111 (zta_11_53 hT hp0) (ztl_11_53 hT hp0) (by decide) ?_
      exact zv_ret (fun h => h) (zv_iret dX11_cell_112)
    refine zv_ite (fun h21 => ?_) (fun h22 => ?_)
    · refine zv_tin (tgt := 113) dX11_cell_24 h21 (by decide) (by decide) (by decide) rfl (by decide) ?_
      refine zv_rload_n dX11_cell_113 0 rfl ?_
      refine zv_iload_n dX11_cell_114 1 rfl ?_
      refine zv_pc (zv_callVi [iv p1] (c_X11_isSure κ.2.1 hw p0 p1 M5 hp0) zmd_X11_isSure zwI_X11_isSure zwS_X11_isSure zwM_RX11_375 zcd_11 hp0 rfl (by decide) rfl (Nat.le_of_ble_eq_true rfl) dX11_cell_115 (fun mh24 v23 h24 => ?_))
      obtain rfl := zpuE h24
      exact zv_ret (fun h => h) (zv_iret dX11_cell_118)
    refine zv_ite (fun h25 => ?_) (fun h26 => ?_)
    · refine zv_tin (tgt := 119) dX11_cell_24 h25 (by decide) (by decide) (by decide) rfl (by decide) ?_
      refine zv_rload_n dX11_cell_119 0 rfl ?_
      refine zv_iload_n dX11_cell_120 1 rfl ?_
      refine zv_iconst (z := 0) dX11_cell_121 ?_
      refine (zv_callVi [iv p1, iv 0] (c_X11_underOf κ.2.1 hw p0 p1 0 M5 hp0) zmd_X11_underOf zwI_X11_underOf zwS_X11_underOf zwM_RX11_378 zcd_11 hp0 rfl (by decide) rfl (Nat.le_of_ble_eq_true rfl) dX11_cell_122 (fun M28 v27 _ => ?_))
      exact zv_ret (fun h => h) (zv_iret dX11_cell_125)
    refine zv_ite (fun h29 => ?_) (fun h30 => ?_)
    · refine zv_tin (tgt := 126) dX11_cell_24 h29 (by decide) (by decide) (by decide) rfl (by decide) ?_
      refine zv_rload_n dX11_cell_126 0 rfl ?_
      refine zv_iload_n dX11_cell_127 1 rfl ?_
      refine zv_iconst (z := 1) dX11_cell_128 ?_
      refine (zv_callVi [iv p1, iv 1] (c_X11_underOf κ.2.1 hw p0 p1 1 M5 hp0) zmd_X11_underOf zwI_X11_underOf zwS_X11_underOf zwM_RX11_378 zcd_11 hp0 rfl (by decide) rfl (Nat.le_of_ble_eq_true rfl) dX11_cell_129 (fun M32 v31 _ => ?_))
      exact zv_ret (fun h => h) (zv_iret dX11_cell_132)
    refine zv_ite (fun h33 => ?_) (fun h34 => ?_)
    · refine zv_tin (tgt := 133) dX11_cell_24 h33 (by decide) (by decide) (by decide) rfl (by decide) ?_
      refine zv_rload_n dX11_cell_133 0 rfl ?_
      refine zg_RX11_31 dX11_cell_134 hp0 ?_
      refine zv_iload_n dX11_cell_137 1 rfl ?_
      refine zv_iald dX11_cell_138 (zta_11_7 hT hp0) (ztl_11_7 hT hp0) (by decide) ?_
      exact zv_ret (fun h => h) (zv_iret dX11_cell_139)
    refine zv_ite (fun h35 => ?_) (fun h36 => ?_)
    · refine zv_tin (tgt := 140) dX11_cell_24 h35 (by decide) (by decide) (by decide) rfl (by decide) ?_
      refine zv_rload_n dX11_cell_140 0 rfl ?_
      refine zv_iload_n dX11_cell_141 1 rfl ?_
      refine zv_pc (zv_callVi [iv p1] (c_X11_isPlace κ.2.1 hw p0 p1 M5 hp0) zmd_X11_isPlace zwI_X11_isPlace zwS_X11_isPlace zwM_RX11_382 zcd_11 hp0 rfl (by decide) rfl (Nat.le_of_ble_eq_true rfl) dX11_cell_142 (fun mh38 v37 h38 => ?_))
      obtain rfl := zpuE h38
      refine zv_if_eq (tgt := 152) dX11_cell_145 (by decide) ?_ ?_
      · refine zv_iconst (z := 0) dX11_cell_152 ?_
        exact zv_ret (fun h => h) (zv_iret dX11_cell_153)
      refine zv_iconst (z := 1) dX11_cell_148 ?_
      refine zv_goto (tgt := 153) dX11_cell_149 (by decide) ?_
      exact zv_ret (fun h => h) (zv_iret dX11_cell_153)
    refine zv_tout (tgt := 154) dX11_cell_24 h6 (by omega) (by decide) ?_
    refine zv_rload_n dX11_cell_154 0 rfl ?_
    refine zg_RX11_34 dX11_cell_155 hp0 ?_
    refine zv_iload_n dX11_cell_158 1 rfl ?_
    refine zv_iald dX11_cell_159 (zta_11_8 hT hp0) (ztl_11_8 hT hp0) (by decide) ?_
    exact zv_ret (fun h => h) (zv_iret dX11_cell_160)
  refine zv_iconst (z := (-1)) dX11_cell_17 ?_
  exact zv_ret (fun h => h) (zv_iret dX11_cell_18)
def f_X11_errs (k : zK)  (p0 : Nat) (M0 : zM) : Option zM :=
  zbr (M0 p0 42) 0 (M0 p0 42 = 0) (zgd ((1 : Int) = 0 ∨ (1 : Int) = 1) (zlt (zst M0 p0 42 1) (fun M1 => zlt (zst M1 p0 35 (M1 p0 38)) (fun M2 => some M2)))) (some M0)
theorem c_X11_errs (l : Launch) {w : zW} (hw : zWk w)  (p0 : Nat) (M0 : zM) (hp0 : ztag w.1 p0 = 12) : zCn l yX11_errs cX11_errs 1 none (0) 0 w [rn w p0] M0 ((f_X11_errs w.1 p0 M0).map fun m => (m, (0 : Int))) := by
  have hT := hw.1
  refine zCn_ofV (own := RX11) (by decide) rfl hw (Nat.le_of_ble_eq_true rfl) [(0, rn w p0)] rfl ?_
  intro κ hl
  subst hl
  unfold f_X11_errs
  refine zv_rload_n dX11_errs_0 0 rfl ?_
  refine zg_RX11_226 dX11_errs_1 hp0 ?_
  refine zv_if_eq (tgt := 8) dX11_errs_4 (by decide) ?_ ?_
  · refine zv_rload_n dX11_errs_8 0 rfl ?_
    refine zv_iconst (z := 1) dX11_errs_9 ?_
    refine zp_RX11_226 dX11_errs_10 hp0 (fun M1 => ?_)
    refine zv_rload_n dX11_errs_13 0 rfl ?_
    refine zv_rload_n dX11_errs_14 0 rfl ?_
    refine zg_RX11_208 dX11_errs_15 hp0 ?_
    refine zp_RX11_108 dX11_errs_18 hp0 (fun M2 => ?_)
    exact zv_ret (fun h => h) (zv_vret (v := 0) dX11_errs_21)
  exact zv_ret (fun h => h) (zv_vret (v := 0) dX11_errs_7)
def f_X11_is (k : zK)  (p0 : Nat) (p1 : Int) (M0 : zM) : Option Int :=
  zbr (M0 p0 42) 0 (¬ M0 p0 42 = 0) (some 0) (zbr (M0 p0 39) 1 (¬ M0 p0 39 = 1) (some 0) (zbl (M0 p0 41) p1 (¬ M0 p0 41 = p1) (some 0) (some 1)))
theorem c_X11_is (l : Launch) {w : zW} (hw : zWk w)  (p0 : Nat) (p1 : Int) (M0 : zM) (hp0 : ztag w.1 p0 = 12) : zCn l yX11_is cX11_is 3 (some .boolean) (0) 1 w [rn w p0, jv p1] M0 ((f_X11_is w.1 p0 p1 M0).map fun v => (M0, v)) := by
  have hT := hw.1
  refine zCn_ofP (own := RX11) (by decide) rfl hw (Nat.le_of_ble_eq_true rfl) [(0, rn w p0), (1, jv p1)] rfl ?_
  intro κ hl
  subst hl
  unfold f_X11_is
  refine zv_rload_n dX11_is_0 0 rfl ?_
  refine zg_RX11_226 dX11_is_1 hp0 ?_
  refine zv_if_ne (tgt := 28) dX11_is_4 (by decide) ?_ ?_
  · refine zv_iconst (z := 0) dX11_is_28 ?_
    exact zv_ret (fun h => h) (zv_zrB (by decide) dX11_is_29)
  refine zv_rload_n dX11_is_7 0 rfl ?_
  refine zg_RX11_220 dX11_is_8 hp0 ?_
  refine zv_iconst (z := 1) dX11_is_11 ?_
  refine zv_icmp_ne (tgt := 28) dX11_is_12 (by decide) ?_ ?_
  · refine zv_iconst (z := 0) dX11_is_28 ?_
    exact zv_ret (fun h => h) (zv_zrB (by decide) dX11_is_29)
  refine zv_rload_n dX11_is_15 0 rfl ?_
  refine zg_RX11_213 dX11_is_16 hp0 ?_
  refine zv_lload_n dX11_is_19 1 rfl ?_
  refine zv_lcmp_ne (tgt := 28) dX11_is_20 dX11_is_21 (by decide) ?_ ?_
  · refine zv_iconst (z := 0) dX11_is_28 ?_
    exact zv_ret (fun h => h) (zv_zrB (by decide) dX11_is_29)
  refine zv_iconst (z := 1) dX11_is_24 ?_
  refine zv_goto (tgt := 29) dX11_is_25 (by decide) ?_
  exact zv_ret (fun h => h) (zv_zrB (by decide) dX11_is_29)
def f_X11_here (k : zK)  (p0 : Nat) (M0 : zM) : Option Int :=
  zbr (M0 p0 37) (M0 p0 36) (M0 p0 36 ≤ M0 p0 37) (some (-1)) (zgd (0 ≤ M0 p0 37 ∧ M0 p0 37 < 700) (some (zo_and (M0 (zfr k p0 33) (M0 p0 37).toNat) 255)))
theorem c_X11_here (l : Launch) {w : zW} (hw : zWk w)  (p0 : Nat) (M0 : zM) (hp0 : ztag w.1 p0 = 12) : zCn l yX11_here cX11_here 1 (some .int) (0) 1 w [rn w p0] M0 ((f_X11_here w.1 p0 M0).map fun v => (M0, v)) := by
  have hT := hw.1
  refine zCn_ofP (own := RX11) (by decide) rfl hw (Nat.le_of_ble_eq_true rfl) [(0, rn w p0)] rfl ?_
  intro κ hl
  subst hl
  unfold f_X11_here
  refine zv_rload_n dX11_here_0 0 rfl ?_
  refine zg_RX11_198 dX11_here_1 hp0 ?_
  refine zv_rload_n dX11_here_4 0 rfl ?_
  refine zg_RX11_201 dX11_here_5 hp0 ?_
  refine zv_icmp_ge (tgt := 27) dX11_here_8 (by decide) ?_ ?_
  · refine zv_iconst (z := (-1)) dX11_here_27 ?_
    exact zv_ret (fun h => h) (zv_iret dX11_here_28)
  refine zv_rload_n dX11_here_11 0 rfl ?_
  refine zg_RX11_104 dX11_here_12 hp0 ?_
  refine zv_rload_n dX11_here_15 0 rfl ?_
  refine zg_RX11_198 dX11_here_16 hp0 ?_
  refine zv_bald dX11_here_19 (zta_11_33 hT hp0) (ztl_11_33 hT hp0) (by decide) ?_
  refine zv_sipush (z := 255) dX11_here_20 (by decide) ?_
  refine zv_iand dX11_here_23 ?_
  refine zv_goto (tgt := 28) dX11_here_24 (by decide) ?_
  exact zv_ret (fun h => h) (zv_iret dX11_here_28)
def fb_X11_next_0 (k : zK)  (l0 : Nat) (M0 : zM) : Option ((zM) ⊕ (zM)) :=
  zb1 (f_X11_here k l0 M0) (fun v1 => zsp0 (zbr v1 32 (v1 = 32) (some (.inl ())) (zb1 (f_X11_here k l0 M0) (fun v3 => zbr v3 10 (¬ v3 = 10) (some (.inr (.inr M0))) (some (.inl ()))))) (fun r => some r) (zlt (zst M0 l0 37 ((M0 l0 37) + 1)) (fun M5 => some (.inl (M5)))))
def fb_X11_next_168 (k : zK)  (l0 : Nat) (M0 : zM) : Option ((zM) ⊕ (zM)) :=
  zb1 (f_X11_here k l0 M0) (fun v21 => zb1 (f_X11_within k v21 48 57 M0) (fun v23 => zbr v23 0 (v23 = 0) (some (.inr M0)) (zb1 (zbr (M0 l0 40) 1000000 (1000000 ≤ M0 l0 40) (some (M0)) (zb1 (f_X11_here k l0 M0) (fun v25 => zlt (zst M0 l0 40 (((10 * (M0 l0 40)) + v25) - 48)) (fun M27 => some (M27))))) (fun M28 => zlt (zst M28 l0 37 ((M28 l0 37) + 1)) (fun M29 => some (.inl (M29)))))))
def fb_X11_next_89 (k : zK)  (l0 : Nat) (M0 : zM) : Option ((zM) ⊕ (zM)) :=
  zb1 (f_X11_here k l0 M0) (fun v35 => zb1 (f_X11_within k v35 97 122 M0) (fun v37 => zbr v37 0 (v37 = 0) (some (.inr M0)) (zb1 (zbr ((M0 l0 37) - (M0 l0 38)) 10 (10 ≤ (M0 l0 37) - (M0 l0 38)) (some (-1)) (zb1 (f_X11_here k l0 M0) (fun v39 => zgd (zr (v39 - 96)) (some (((M0 l0 41) * 27) + (v39 - 96)))))) (fun x41 => zlt (zst M0 l0 41 x41) (fun M42 => zlt (zst M42 l0 37 ((M42 l0 37) + 1)) (fun M43 => some (.inl (M43))))))))
def f_X11_next (k : zK)  (p0 : Nat) (M0 : zM) : Option zM :=
  zb1 (zw1 (fb_X11_next_0 k p0) zfu M0) (fun M6 => zlt (zst M6 p0 38 (M6 p0 37)) (fun M7 => zb1 (f_X11_here k p0 M7) (fun v8 => zlt (zst M7 p0 41 (-1)) (fun M10 => zlt (zst M10 p0 40 0) (fun M11 => zbr v8 0 (0 ≤ v8) (zb1 (f_X11_within k v8 97 122 M11) (fun v12 => zbr v12 0 (v12 = 0) (zb1 (f_X11_within k v8 48 57 M11) (fun v14 => zbr v14 0 (v14 = 0) (zsp1 (zbr v8 40 (v8 = 40) (some (.inl M11)) (zbr v8 41 (v8 = 41) (some (.inl M11)) (zbr v8 59 (v8 = 59) (some (.inl M11)) (zbr v8 60 (v8 = 60) (some (.inl M11)) (zbr v8 62 (v8 = 62) (some (.inl M11)) (zbr v8 61 (¬ v8 = 61) (zlt (zst M11 p0 39 3) (fun M16 => zlt (zst M16 p0 37 ((M16 p0 37) + 1)) (fun M17 => some (.inr M17)))) (some (.inl M11)))))))) (fun r => some r) (fun M18 => zlt (zst M18 p0 39 v8) (fun M19 => zlt (zst M19 p0 37 ((M19 p0 37) + 1)) (fun M20 => some M20)))) (zb1 (zw1 (fb_X11_next_168 k p0) zfu M11) (fun M30 => zbr ((M30 p0 37) - (M30 p0 38)) 4 (4 < (M30 p0 37) - (M30 p0 38)) (zlt (zst M30 p0 39 3) (fun M31 => some M31)) (zlt (zst M30 p0 39 2) (fun M32 => some M32)))))) (zlt (zst M11 p0 39 1) (fun M33 => zlt (zst M33 p0 41 0) (fun M34 => zb1 (zw1 (fb_X11_next_89 k p0) zfu M34) (fun M44 => some M44)))))) (zlt (zst M11 p0 39 0) (fun M45 => some M45)))))))
theorem vl_X11_next_0 {κ : zC} {w : zW} (hw : zWk w)  (l0 : Nat) (g0 : ztag w.1 l0 = 12)  (E : (zM) → Prop) (hX : ∀  (M1 : zM), E M1 → zB cX11_next RX11 2 none κ w (0, 0, 1) 31 [(0, rn w l0)] [] M1)  (M0 : zM) :
    zV cX11_next RX11 2 none κ w (0, 0, 1) 0 [(0, rn w l0)] [] M0 (zw1 (fb_X11_next_0 w.1 l0) zfu M0) E := by
  have hT := hw.1
  refine zv_loop1 (fun M0 => [(0, rn w l0)]) (fun M0 => M0) (fun M0 => ?_) M0
  unfold fb_X11_next_0
  refine zv_rload_n dX11_next_0 0 rfl ?_
  refine zv_pc (zv_callVi [] (c_X11_here κ.2.1 hw l0 M0 g0) zmd_X11_here zwI_X11_here zwS_X11_here zwM_RX11_204 zcd_11 g0 rfl (by decide) rfl (Nat.le_of_ble_eq_true rfl) dX11_next_1 (fun mh2 v1 h2 => ?_))
  obtain rfl := zpuE h2
  refine zv_bipush (z := 32) dX11_next_4 (by decide) ?_
  refine zv_joinS0 (fun r => r) 18 ([(0, rn w l0)]) ([]) (M0) ?_ (?_)
  · refine zv_icmp_eq (tgt := 18) dX11_next_6 (by decide) ?_ ?_
    · exact zv_sub (L' := [(0, rn w l0)]) [0] rfl (zv_exit (fun h => h))
    refine zv_rload_n dX11_next_9 0 rfl ?_
    refine zv_pc (zv_callVi [] (c_X11_here κ.2.1 hw l0 M0 g0) zmd_X11_here zwI_X11_here zwS_X11_here zwM_RX11_204 zcd_11 g0 rfl (by decide) rfl (Nat.le_of_ble_eq_true rfl) dX11_next_10 (fun mh4 v3 h4 => ?_))
    obtain rfl := zpuE h4
    refine zv_bipush (z := 10) dX11_next_13 (by decide) ?_
    refine zv_icmp_ne (tgt := 31) dX11_next_15 (by decide) ?_ ?_
    · exact zv_sub (L' := [(0, rn w l0)]) [0] rfl (zv_exit (fun h => hX _ h))
    exact zv_sub (L' := [(0, rn w l0)]) [0] rfl (zv_exit (fun h => h))
  refine zv_rload_n dX11_next_18 0 rfl ?_
  refine zv_dup dX11_next_19 rfl ?_
  refine zg_RX11_198 dX11_next_20 g0 ?_
  refine zv_iconst (z := 1) dX11_next_23 ?_
  refine zv_iadd dX11_next_24 ?_
  refine zp_RX11_198 dX11_next_25 g0 (fun M5 => ?_)
  refine zv_goto (tgt := 0) dX11_next_28 (by decide) ?_
  exact zv_sub (L' := [(0, rn w l0)]) [0] rfl (zv_exit (fun h => h))
theorem vl_X11_next_168 {κ : zC} {w : zW} (hw : zWk w)  (l0 : Nat) (g0 : ztag w.1 l0 = 12)  (E : (zM) → Prop) (hX : ∀  (M1 : zM), E M1 → zB cX11_next RX11 2 none κ w (0, 0, 1) 223 [(0, rn w l0)] [] M1)  (M0 : zM) :
    zV cX11_next RX11 2 none κ w (0, 0, 1) 168 [(0, rn w l0)] [] M0 (zw1 (fb_X11_next_168 w.1 l0) zfu M0) E := by
  have hT := hw.1
  refine zv_loop1 (fun M0 => [(0, rn w l0)]) (fun M0 => M0) (fun M0 => ?_) M0
  unfold fb_X11_next_168
  refine zv_rload_n dX11_next_168 0 rfl ?_
  refine zv_pc (zv_callVi [] (c_X11_here κ.2.1 hw l0 M0 g0) zmd_X11_here zwI_X11_here zwS_X11_here zwM_RX11_204 zcd_11 g0 rfl (by decide) rfl (Nat.le_of_ble_eq_true rfl) dX11_next_169 (fun mh22 v21 h22 => ?_))
  obtain rfl := zpuE h22
  refine zv_bipush (z := 48) dX11_next_172 (by decide) ?_
  refine zv_bipush (z := 57) dX11_next_174 (by decide) ?_
  refine zv_pc (zv_callSi [iv v21, iv 48, iv 57] (c_X11_within κ.2.1 hw v21 48 57 M0 ) zmd_X11_within zwT_X11_within zwM_RX11_183 rfl (by decide) rfl (Nat.le_of_ble_eq_true rfl) dX11_next_176 (fun mh24 v23 h24 => ?_))
  obtain rfl := zpuE h24
  refine zv_if_eq (tgt := 223) dX11_next_179 (by decide) ?_ ?_
  · exact zv_sub (L' := [(0, rn w l0)]) [0] rfl (zv_exit (fun h => hX _ h))
  refine zv_rload_n dX11_next_182 0 rfl ?_
  refine zg_RX11_217 dX11_next_183 g0 ?_
  refine zv_ldc (z := 1000000) dX11_next_186 zwK_RX11_225 (by decide) ?_
  refine zv_join1 210 (fun M28 => [(0, rn w l0)]) (fun M28 => []) (fun M28 => M28) ?_ (fun M28 => ?_)
  · refine zv_icmp_ge (tgt := 210) dX11_next_188 (by decide) ?_ ?_
    · exact zv_sub (L' := [(0, rn w l0)]) [0] rfl (zv_exit (fun h => h))
    refine zv_rload_n dX11_next_191 0 rfl ?_
    refine zv_bipush (z := 10) dX11_next_192 (by decide) ?_
    refine zv_rload_n dX11_next_194 0 rfl ?_
    refine zg_RX11_217 dX11_next_195 g0 ?_
    refine zv_imul dX11_next_198 ?_
    refine zv_rload_n dX11_next_199 0 rfl ?_
    refine zv_pc (zv_callVi [] (c_X11_here κ.2.1 hw l0 M0 g0) zmd_X11_here zwI_X11_here zwS_X11_here zwM_RX11_204 zcd_11 g0 rfl (by decide) rfl (Nat.le_of_ble_eq_true rfl) dX11_next_200 (fun mh26 v25 h26 => ?_))
    obtain rfl := zpuE h26
    refine zv_iadd dX11_next_203 ?_
    refine zv_bipush (z := 48) dX11_next_204 (by decide) ?_
    refine zv_isub dX11_next_206 ?_
    refine zp_RX11_217 dX11_next_207 g0 (fun M27 => ?_)
    exact zv_sub (L' := [(0, rn w l0)]) [0] rfl (zv_exit (fun h => h))
  refine zv_rload_n dX11_next_210 0 rfl ?_
  refine zv_dup dX11_next_211 rfl ?_
  refine zg_RX11_198 dX11_next_212 g0 ?_
  refine zv_iconst (z := 1) dX11_next_215 ?_
  refine zv_iadd dX11_next_216 ?_
  refine zp_RX11_198 dX11_next_217 g0 (fun M29 => ?_)
  refine zv_goto (tgt := 168) dX11_next_220 (by decide) ?_
  exact zv_sub (L' := [(0, rn w l0)]) [0] rfl (zv_exit (fun h => h))
theorem vl_X11_next_89 {κ : zC} {w : zW} (hw : zWk w)  (l0 : Nat) (g0 : ztag w.1 l0 = 12)  (E : (zM) → Prop) (hX : ∀  (M1 : zM), E M1 → zB cX11_next RX11 2 none κ w (0, 0, 1) 303 [] [] M1)  (M0 : zM) :
    zV cX11_next RX11 2 none κ w (0, 0, 1) 89 [(0, rn w l0)] [] M0 (zw1 (fb_X11_next_89 w.1 l0) zfu M0) E := by
  have hT := hw.1
  refine zv_loop1 (fun M0 => [(0, rn w l0)]) (fun M0 => M0) (fun M0 => ?_) M0
  unfold fb_X11_next_89
  refine zv_rload_n dX11_next_89 0 rfl ?_
  refine zv_pc (zv_callVi [] (c_X11_here κ.2.1 hw l0 M0 g0) zmd_X11_here zwI_X11_here zwS_X11_here zwM_RX11_204 zcd_11 g0 rfl (by decide) rfl (Nat.le_of_ble_eq_true rfl) dX11_next_90 (fun mh36 v35 h36 => ?_))
  obtain rfl := zpuE h36
  refine zv_bipush (z := 97) dX11_next_93 (by decide) ?_
  refine zv_bipush (z := 122) dX11_next_95 (by decide) ?_
  refine zv_pc (zv_callSi [iv v35, iv 97, iv 122] (c_X11_within κ.2.1 hw v35 97 122 M0 ) zmd_X11_within zwT_X11_within zwM_RX11_183 rfl (by decide) rfl (Nat.le_of_ble_eq_true rfl) dX11_next_97 (fun mh38 v37 h38 => ?_))
  obtain rfl := zpuE h38
  refine zv_if_eq (tgt := 303) dX11_next_100 (by decide) ?_ ?_
  · exact zv_sub (L' := []) [] rfl (zv_exit (fun h => hX _ h))
  refine zv_rload_n dX11_next_103 0 rfl ?_
  refine zv_rload_n dX11_next_104 0 rfl ?_
  refine zg_RX11_198 dX11_next_105 g0 ?_
  refine zv_rload_n dX11_next_108 0 rfl ?_
  refine zg_RX11_208 dX11_next_109 g0 ?_
  refine zv_isub dX11_next_112 ?_
  refine zv_bipush (z := 10) dX11_next_113 (by decide) ?_
  refine zv_join1 141 (fun x41 => [(0, rn w l0)]) (fun x41 => [jv x41, rn w l0]) (fun x41 => M0) ?_ (fun x41 => ?_)
  · refine zv_icmp_ge (tgt := 138) dX11_next_115 (by decide) ?_ ?_
    · refine zv_ldc2 (z := (-1)) dX11_next_138 zwK_RX11_211 (by decide) ?_
      exact zv_sub (L' := [(0, rn w l0)]) [0] rfl (zv_exit (fun h => h))
    refine zv_rload_n dX11_next_118 0 rfl ?_
    refine zg_RX11_213 dX11_next_119 g0 ?_
    refine zv_ldc2 (z := 27) dX11_next_122 zwK_RX11_223 (by decide) ?_
    refine zv_lmul dX11_next_125 ?_
    refine zv_rload_n dX11_next_126 0 rfl ?_
    refine zv_pc (zv_callVi [] (c_X11_here κ.2.1 hw l0 M0 g0) zmd_X11_here zwI_X11_here zwS_X11_here zwM_RX11_204 zcd_11 g0 rfl (by decide) rfl (Nat.le_of_ble_eq_true rfl) dX11_next_127 (fun mh40 v39 h40 => ?_))
    obtain rfl := zpuE h40
    refine zv_bipush (z := 96) dX11_next_130 (by decide) ?_
    refine zv_isub dX11_next_132 ?_
    refine zv_i2l dX11_next_133 ?_
    refine zv_ladd dX11_next_134 ?_
    refine zv_goto (tgt := 141) dX11_next_135 (by decide) ?_
    exact zv_sub (L' := [(0, rn w l0)]) [0] rfl (zv_exit (fun h => h))
  refine zp_RX11_213 dX11_next_141 g0 (fun M42 => ?_)
  refine zv_rload_n dX11_next_144 0 rfl ?_
  refine zv_dup dX11_next_145 rfl ?_
  refine zg_RX11_198 dX11_next_146 g0 ?_
  refine zv_iconst (z := 1) dX11_next_149 ?_
  refine zv_iadd dX11_next_150 ?_
  refine zp_RX11_198 dX11_next_151 g0 (fun M43 => ?_)
  refine zv_goto (tgt := 89) dX11_next_154 (by decide) ?_
  exact zv_sub (L' := [(0, rn w l0)]) [0] rfl (zv_exit (fun h => h))
set_option maxRecDepth 20000 in
theorem c_X11_next (l : Launch) {w : zW} (hw : zWk w)  (p0 : Nat) (M0 : zM) (hp0 : ztag w.1 p0 = 12) : zCn l yX11_next cX11_next 2 none (1) 0 w [rn w p0] M0 ((f_X11_next w.1 p0 M0).map fun m => (m, (0 : Int))) := by
  have hT := hw.1
  refine zCn_ofV (own := RX11) (by decide) rfl hw (Nat.le_of_ble_eq_true rfl) [(0, rn w p0)] rfl ?_
  intro κ hl
  subst hl
  unfold f_X11_next
  refine zv_join1 31 (fun M6 => [(0, rn w p0)]) (fun M6 => []) (fun M6 => M6) (zv_sub (L' := [(0, rn w p0)]) [0] rfl (vl_X11_next_0 hw p0 hp0 _ (fun _ h => h) M0)) (fun M6 => ?_)
  refine zv_rload_n dX11_next_31 0 rfl ?_
  refine zv_rload_n dX11_next_32 0 rfl ?_
  refine zg_RX11_198 dX11_next_33 hp0 ?_
  refine zp_RX11_208 dX11_next_36 hp0 (fun M7 => ?_)
  refine zv_rload_n dX11_next_39 0 rfl ?_
  refine zv_pc (zv_callVi [] (c_X11_here κ.2.1 hw p0 M7 hp0) zmd_X11_here zwI_X11_here zwS_X11_here zwM_RX11_204 zcd_11 hp0 rfl (by decide) rfl (Nat.le_of_ble_eq_true rfl) dX11_next_40 (fun mh9 v8 h9 => ?_))
  obtain rfl := zpuE h9
  refine zv_istore_np (L' := [(1, iv v8), (0, rn w p0)]) (by rfl) dX11_next_43 (by decide) rfl ?_
  refine zv_rload_n dX11_next_44 1 rfl ?_
  refine zv_ldc2 (z := (-1)) dX11_next_45 zwK_RX11_211 (by decide) ?_
  refine zp_RX11_213 dX11_next_48 hp0 (fun M10 => ?_)
  refine zv_rload_n dX11_next_51 1 rfl ?_
  refine zv_iconst (z := 0) dX11_next_52 ?_
  refine zp_RX11_217 dX11_next_53 hp0 (fun M11 => ?_)
  refine zv_iload_n dX11_next_56 0 rfl ?_
  refine zv_if_ge (tgt := 68) dX11_next_57 (by decide) ?_ ?_
  · refine zv_iload_n dX11_next_68 0 rfl ?_
    refine zv_bipush (z := 97) dX11_next_69 (by decide) ?_
    refine zv_bipush (z := 122) dX11_next_71 (by decide) ?_
    refine zv_pc (zv_callSi [iv v8, iv 97, iv 122] (c_X11_within κ.2.1 hw v8 97 122 M11 ) zmd_X11_within zwT_X11_within zwM_RX11_183 rfl (by decide) rfl (Nat.le_of_ble_eq_true rfl) dX11_next_73 (fun mh13 v12 h13 => ?_))
    obtain rfl := zpuE h13
    refine zv_if_eq (tgt := 157) dX11_next_76 (by decide) ?_ ?_
    · refine zv_iload_n dX11_next_157 0 rfl ?_
      refine zv_bipush (z := 48) dX11_next_158 (by decide) ?_
      refine zv_bipush (z := 57) dX11_next_160 (by decide) ?_
      refine zv_pc (zv_callSi [iv v8, iv 48, iv 57] (c_X11_within κ.2.1 hw v8 48 57 M11 ) zmd_X11_within zwT_X11_within zwM_RX11_183 rfl (by decide) rfl (Nat.le_of_ble_eq_true rfl) dX11_next_162 (fun mh15 v14 h15 => ?_))
      obtain rfl := zpuE h15
      refine zv_if_eq (tgt := 248) dX11_next_165 (by decide) ?_ ?_
      · refine zv_rload_n dX11_next_248 1 rfl ?_
        refine zv_iload_n dX11_next_249 0 rfl ?_
        refine zv_bipush (z := 40) dX11_next_250 (by decide) ?_
        refine zv_joinS1 (fun r => r) 285 (fun M18 => [(1, iv v8), (0, rn w p0)]) (fun M18 => [rn w p0]) (fun M18 => M18) ?_ (fun M18 => ?_)
        · refine zv_icmp_eq (tgt := 285) dX11_next_252 (by decide) ?_ ?_
          · exact zv_sub (L' := [(1, iv v8), (0, rn w p0)]) [0, 1] rfl (zv_exit (fun h => h))
          refine zv_iload_n dX11_next_255 0 rfl ?_
          refine zv_bipush (z := 41) dX11_next_256 (by decide) ?_
          refine zv_icmp_eq (tgt := 285) dX11_next_258 (by decide) ?_ ?_
          · exact zv_sub (L' := [(1, iv v8), (0, rn w p0)]) [0, 1] rfl (zv_exit (fun h => h))
          refine zv_iload_n dX11_next_261 0 rfl ?_
          refine zv_bipush (z := 59) dX11_next_262 (by decide) ?_
          refine zv_icmp_eq (tgt := 285) dX11_next_264 (by decide) ?_ ?_
          · exact zv_sub (L' := [(1, iv v8), (0, rn w p0)]) [0, 1] rfl (zv_exit (fun h => h))
          refine zv_iload_n dX11_next_267 0 rfl ?_
          refine zv_bipush (z := 60) dX11_next_268 (by decide) ?_
          refine zv_icmp_eq (tgt := 285) dX11_next_270 (by decide) ?_ ?_
          · exact zv_sub (L' := [(1, iv v8), (0, rn w p0)]) [0, 1] rfl (zv_exit (fun h => h))
          refine zv_iload_n dX11_next_273 0 rfl ?_
          refine zv_bipush (z := 62) dX11_next_274 (by decide) ?_
          refine zv_icmp_eq (tgt := 285) dX11_next_276 (by decide) ?_ ?_
          · exact zv_sub (L' := [(1, iv v8), (0, rn w p0)]) [0, 1] rfl (zv_exit (fun h => h))
          refine zv_iload_n dX11_next_279 0 rfl ?_
          refine zv_bipush (z := 61) dX11_next_280 (by decide) ?_
          refine zv_icmp_ne (tgt := 289) dX11_next_282 (by decide) ?_ ?_
          · refine zv_iconst (z := 3) dX11_next_289 ?_
            refine zp_RX11_220 dX11_next_290 hp0 (fun M16 => ?_)
            refine zv_rload_n dX11_next_293 1 rfl ?_
            refine zv_dup dX11_next_294 rfl ?_
            refine zg_RX11_198 dX11_next_295 hp0 ?_
            refine zv_iconst (z := 1) dX11_next_298 ?_
            refine zv_iadd dX11_next_299 ?_
            refine zp_RX11_198 dX11_next_300 hp0 (fun M17 => ?_)
            exact zv_ret (fun h => h) (zv_vret (v := 0) dX11_next_303)
          exact zv_sub (L' := [(1, iv v8), (0, rn w p0)]) [0, 1] rfl (zv_exit (fun h => h))
        refine zv_iload_n dX11_next_285 0 rfl ?_
        refine zv_goto (tgt := 290) dX11_next_286 (by decide) ?_
        refine zp_RX11_220 dX11_next_290 hp0 (fun M19 => ?_)
        refine zv_rload_n dX11_next_293 1 rfl ?_
        refine zv_dup dX11_next_294 rfl ?_
        refine zg_RX11_198 dX11_next_295 hp0 ?_
        refine zv_iconst (z := 1) dX11_next_298 ?_
        refine zv_iadd dX11_next_299 ?_
        refine zp_RX11_198 dX11_next_300 hp0 (fun M20 => ?_)
        exact zv_ret (fun h => h) (zv_vret (v := 0) dX11_next_303)
      refine zv_join1 223 (fun M30 => [(0, rn w p0)]) (fun M30 => []) (fun M30 => M30) (zv_sub (L' := [(0, rn w p0)]) [1] rfl (vl_X11_next_168 hw p0 hp0 _ (fun _ h => h) M11)) (fun M30 => ?_)
      refine zv_rload_n dX11_next_223 0 rfl ?_
      refine zv_rload_n dX11_next_224 0 rfl ?_
      refine zg_RX11_198 dX11_next_225 hp0 ?_
      refine zv_rload_n dX11_next_228 0 rfl ?_
      refine zg_RX11_208 dX11_next_229 hp0 ?_
      refine zv_isub dX11_next_232 ?_
      refine zv_iconst (z := 4) dX11_next_233 ?_
      refine zv_icmp_gt (tgt := 241) dX11_next_234 (by decide) ?_ ?_
      · refine zv_iconst (z := 3) dX11_next_241 ?_
        refine zp_RX11_220 dX11_next_242 hp0 (fun M31 => ?_)
        refine zv_goto (tgt := 303) dX11_next_245 (by decide) ?_
        exact zv_ret (fun h => h) (zv_vret (v := 0) dX11_next_303)
      refine zv_iconst (z := 2) dX11_next_237 ?_
      refine zv_goto (tgt := 242) dX11_next_238 (by decide) ?_
      refine zp_RX11_220 dX11_next_242 hp0 (fun M32 => ?_)
      refine zv_goto (tgt := 303) dX11_next_245 (by decide) ?_
      exact zv_ret (fun h => h) (zv_vret (v := 0) dX11_next_303)
    refine zv_rload_n dX11_next_79 1 rfl ?_
    refine zv_iconst (z := 1) dX11_next_80 ?_
    refine zp_RX11_220 dX11_next_81 hp0 (fun M33 => ?_)
    refine zv_rload_n dX11_next_84 1 rfl ?_
    refine zv_lconst (z := 0) dX11_next_85 (by decide) ?_
    refine zp_RX11_213 dX11_next_86 hp0 (fun M34 => ?_)
    refine zv_join1 303 (fun M44 => []) (fun M44 => []) (fun M44 => M44) (zv_sub (L' := [(0, rn w p0)]) [1] rfl (vl_X11_next_89 hw p0 hp0 _ (fun _ h => h) M34)) (fun M44 => ?_)
    exact zv_ret (fun h => h) (zv_vret (v := 0) dX11_next_303)
  refine zv_rload_n dX11_next_60 1 rfl ?_
  refine zv_iconst (z := 0) dX11_next_61 ?_
  refine zp_RX11_220 dX11_next_62 hp0 (fun M45 => ?_)
  refine zv_goto (tgt := 303) dX11_next_65 (by decide) ?_
  exact zv_ret (fun h => h) (zv_vret (v := 0) dX11_next_303)

def fb_X11_readCondition_14 (k : zK)  (l0 : Nat) (y1 : Int) (M0 : zM) : Option ((Int × zM) ⊕ ((zM) ⊕ zM)) :=
  zbr y1 0 (y1 = 0) (some (.inr (.inr M0))) (zbr (M0 l0 42) 0 (¬ M0 l0 42 = 0) (some (.inr (.inr M0))) (zb1 (f_X11_is k l0 10631 M0) (fun v3 => zsp2 (zbr v3 0 (¬ v3 = 0) (some (.inl (y1, M0))) (zbr (M0 l0 39) 40 (¬ M0 l0 39 = 40) (zb1 (f_X11_readTest k l0 M0) (fun M5 => zbr (M5 l0 42) 0 (¬ M5 l0 42 = 0) (some (.inr (.inl (0, M5)))) (zbd (f_X11_closes k l0 M5) (fun M7 v6 => zbr v6 0 (v6 = 0) (some (.inr (.inl (0, M7)))) (some (.inr (.inl (1, M7)))))))) (some (.inl (y1, M0))))) (fun r => some r) (fun x8 M9 => zbr (M9 l0 45) 9 (¬ M9 l0 45 = 9) (zb1 (zbr v3 0 (v3 = 0) (some (2)) (some (1))) (fun x10 => zgd (0 ≤ M9 l0 45 ∧ M9 l0 45 < 12) (zlt (zst M9 (zfr k l0 43) (M9 l0 45).toNat (x10)) (fun M11 => zlt (zst M11 l0 45 ((M11 l0 45) + 1)) (fun M12 => zgd (0 ≤ M12 l0 45 ∧ M12 l0 45 < 12) (zlt (zst M12 (zfr k l0 44) (M12 l0 45).toNat (0)) (fun M13 => zb1 (f_X11_next k l0 M13) (fun M14 => some (.inl (x8, M14)))))))))) (some (.inr (.inl M9)))))))
def f_X11_readCondition (k : zK)  (p0 : Nat) (M0 : zM) : Option zM :=
  zlt (zst M0 p0 45 0) (fun M1 => zgd (0 ≤ (0 : Int) ∧ (0 : Int) < 12) (zlt (zst M1 (zfr k p0 44) (Int.toNat 0) (0)) (fun M2 => zsp1 (zw2 (fb_X11_readCondition_14 k p0) zfu 1 M2) (fun r => some (r)) (fun M15 => zb1 (f_X11_errs k p0 M15) (fun M16 => some M16)))))
set_option maxRecDepth 20000 in
theorem vl_X11_readCondition_14 {κ : zC} {w : zW} (hw : zWk w)  (l0 : Nat) (g0 : ztag w.1 l0 = 12)  (E : ((zM) ⊕ zM) → Prop) (hX : ∀  (M1 : zM), E (.inl M1) → zB cX11_readCondition RX11 3 none κ w (0, 0, 4) 55 [(0, rn w l0)] [] M1) (hR : ∀ r, E (.inr r) → zRt κ w (0, 0, 4) 0 (r, 0)) (y1 : Int) (M0 : zM) :
    zV cX11_readCondition RX11 3 none κ w (0, 0, 4) 14 [(1, iv y1), (0, rn w l0)] [] M0 (zw2 (fb_X11_readCondition_14 w.1 l0) zfu y1 M0) E := by
  have hT := hw.1
  refine zv_loop2 (fun y1 M0 => [(1, iv y1), (0, rn w l0)]) (fun y1 M0 => M0) (fun y1 M0 => ?_) y1 M0
  unfold fb_X11_readCondition_14
  refine zv_iload_n dX11_readCondition_14 0 rfl ?_
  refine zv_if_eq (tgt := 132) dX11_readCondition_15 (by decide) ?_ ?_
  · exact zv_ret (fun h => hR _ h) (zv_vret (v := 0) dX11_readCondition_132)
  refine zv_rload_n dX11_readCondition_18 1 rfl ?_
  refine zg_RX11_226 dX11_readCondition_19 g0 ?_
  refine zv_if_ne (tgt := 132) dX11_readCondition_22 (by decide) ?_ ?_
  · exact zv_ret (fun h => hR _ h) (zv_vret (v := 0) dX11_readCondition_132)
  refine zv_rload_n dX11_readCondition_25 1 rfl ?_
  refine zv_ldc2 (z := 10631) dX11_readCondition_26 zwK_RX11_295 (by decide) ?_
  refine zv_pc (zv_callVi [jv 10631] (c_X11_is κ.2.1 hw l0 10631 M0 g0) zmd_X11_is zwI_X11_is zwS_X11_is zwM_RX11_266 zcd_11 g0 rfl (by decide) rfl (Nat.le_of_ble_eq_true rfl) dX11_readCondition_29 (fun mh4 v3 h4 => ?_))
  obtain rfl := zpuE h4
  refine zv_istore_np (L' := [(2, iv v3), (1, iv y1), (0, rn w l0)]) (by rfl) dX11_readCondition_32 (by decide) rfl ?_
  refine zv_iload_n dX11_readCondition_33 0 rfl ?_
  refine zv_joinS2 (fun r => r) 46 (fun x8 M9 => [(1, iv x8), (2, iv v3), (0, rn w l0)]) (fun x8 M9 => []) (fun x8 M9 => M9) ?_ (fun x8 M9 => ?_)
  · refine zv_if_ne (tgt := 46) dX11_readCondition_34 (by decide) ?_ ?_
    · exact zv_sub (L' := [(1, iv y1), (2, iv v3), (0, rn w l0)]) [1, 0, 2] rfl (zv_exit (fun h => h))
    refine zv_rload_n dX11_readCondition_37 2 rfl ?_
    refine zg_RX11_220 dX11_readCondition_38 g0 ?_
    refine zv_bipush (z := 40) dX11_readCondition_41 (by decide) ?_
    refine zv_icmp_ne (tgt := 105) dX11_readCondition_43 (by decide) ?_ ?_
    · refine zv_rload_n dX11_readCondition_105 2 rfl ?_
      refine zv_vc (zv_callVv [] (c_X11_readTest κ.2.1 hw l0 M0 g0) zmd_X11_readTest zwI_X11_readTest zwS_X11_readTest zwM_RX11_297 zcd_11 g0 rfl (by decide) rfl (Nat.le_of_ble_eq_true rfl) dX11_readCondition_106 (fun M5 _ _ => ?_))
      refine zv_rload_n dX11_readCondition_109 2 rfl ?_
      refine zg_RX11_226 dX11_readCondition_110 g0 ?_
      refine zv_if_ne (tgt := 127) dX11_readCondition_113 (by decide) ?_ ?_
      · refine zv_iconst (z := 0) dX11_readCondition_127 ?_
        refine zv_istore_np (L' := [(1, iv 0), (2, iv v3), (0, rn w l0)]) (by rfl) dX11_readCondition_128 (by decide) rfl ?_
        refine zv_goto (tgt := 14) dX11_readCondition_129 (by decide) ?_
        exact zv_sub (L' := [(1, iv 0), (0, rn w l0)]) [0, 2] rfl (zv_exit (fun h => h))
      refine zv_rload_n dX11_readCondition_116 2 rfl ?_
      refine (zv_callVi [] (c_X11_closes κ.2.1 hw l0 M5 g0) zmd_X11_closes zwI_X11_closes zwS_X11_closes zwM_RX11_300 zcd_11 g0 rfl (by decide) rfl (Nat.le_of_ble_eq_true rfl) dX11_readCondition_117 (fun M7 v6 _ => ?_))
      refine zv_if_eq (tgt := 127) dX11_readCondition_120 (by decide) ?_ ?_
      · refine zv_iconst (z := 0) dX11_readCondition_127 ?_
        refine zv_istore_np (L' := [(1, iv 0), (2, iv v3), (0, rn w l0)]) (by rfl) dX11_readCondition_128 (by decide) rfl ?_
        refine zv_goto (tgt := 14) dX11_readCondition_129 (by decide) ?_
        exact zv_sub (L' := [(1, iv 0), (0, rn w l0)]) [0, 2] rfl (zv_exit (fun h => h))
      refine zv_iconst (z := 1) dX11_readCondition_123 ?_
      refine zv_goto (tgt := 128) dX11_readCondition_124 (by decide) ?_
      refine zv_istore_np (L' := [(1, iv 1), (2, iv v3), (0, rn w l0)]) (by rfl) dX11_readCondition_128 (by decide) rfl ?_
      refine zv_goto (tgt := 14) dX11_readCondition_129 (by decide) ?_
      exact zv_sub (L' := [(1, iv 1), (0, rn w l0)]) [0, 2] rfl (zv_exit (fun h => h))
    exact zv_sub (L' := [(1, iv y1), (2, iv v3), (0, rn w l0)]) [1, 0, 2] rfl (zv_exit (fun h => h))
  refine zv_rload_n dX11_readCondition_46 2 rfl ?_
  refine zg_RX11_288 dX11_readCondition_47 g0 ?_
  refine zv_bipush (z := 9) dX11_readCondition_50 (by decide) ?_
  refine zv_icmp_ne (tgt := 60) dX11_readCondition_52 (by decide) ?_ ?_
  · refine zv_rload_n dX11_readCondition_60 2 rfl ?_
    refine zg_RX11_112 dX11_readCondition_61 g0 ?_
    refine zv_rload_n dX11_readCondition_64 2 rfl ?_
    refine zg_RX11_288 dX11_readCondition_65 g0 ?_
    refine zv_iload_n dX11_readCondition_68 1 rfl ?_
    refine zv_join1 77 (fun x10 => [(1, iv x8), (0, rn w l0)]) (fun x10 => [iv x10, iv (M9 l0 45), rn w (zfr w.1 l0 43)]) (fun x10 => M9) ?_ (fun x10 => ?_)
    · refine zv_if_eq (tgt := 76) dX11_readCondition_69 (by decide) ?_ ?_
      · refine zv_iconst (z := 2) dX11_readCondition_76 ?_
        exact zv_sub (L' := [(1, iv x8), (0, rn w l0)]) [0, 2] rfl (zv_exit (fun h => h))
      refine zv_iconst (z := 1) dX11_readCondition_72 ?_
      refine zv_goto (tgt := 77) dX11_readCondition_73 (by decide) ?_
      exact zv_sub (L' := [(1, iv x8), (0, rn w l0)]) [0, 2] rfl (zv_exit (fun h => h))
    refine zv_iast dX11_readCondition_77 (zta_11_43 hT g0) (ztl_11_43 hT g0) (by decide) (fun M11 => ?_)
    refine zv_rload_n dX11_readCondition_78 1 rfl ?_
    refine zv_dup dX11_readCondition_79 rfl ?_
    refine zg_RX11_288 dX11_readCondition_80 g0 ?_
    refine zv_iconst (z := 1) dX11_readCondition_83 ?_
    refine zv_iadd dX11_readCondition_84 ?_
    refine zp_RX11_288 dX11_readCondition_85 g0 (fun M12 => ?_)
    refine zv_rload_n dX11_readCondition_88 1 rfl ?_
    refine zg_RX11_115 dX11_readCondition_89 g0 ?_
    refine zv_rload_n dX11_readCondition_92 1 rfl ?_
    refine zg_RX11_288 dX11_readCondition_93 g0 ?_
    refine zv_iconst (z := 0) dX11_readCondition_96 ?_
    refine zv_iast dX11_readCondition_97 (zta_11_44 hT g0) (ztl_11_44 hT g0) (by decide) (fun M13 => ?_)
    refine zv_rload_n dX11_readCondition_98 1 rfl ?_
    refine zv_vc (zv_callVv [] (c_X11_next κ.2.1 hw l0 M13 g0) zmd_X11_next zwI_X11_next zwS_X11_next zwM_RX11_233 zcd_11 g0 rfl (by decide) rfl (Nat.le_of_ble_eq_true rfl) dX11_readCondition_99 (fun M14 _ _ => ?_))
    refine zv_goto (tgt := 14) dX11_readCondition_102 (by decide) ?_
    exact zv_sub (L' := [(1, iv x8), (0, rn w l0)]) [0, 1] rfl (zv_exit (fun h => h))
  exact zv_sub (L' := [(0, rn w l0)]) [2] rfl (zv_exit (fun h => hX _ h))
theorem c_X11_readCondition (l : Launch) {w : zW} (hw : zWk w)  (p0 : Nat) (M0 : zM) (hp0 : ztag w.1 p0 = 12) : zCn l yX11_readCondition cX11_readCondition 3 none (4) 0 w [rn w p0] M0 ((f_X11_readCondition w.1 p0 M0).map fun m => (m, (0 : Int))) := by
  have hT := hw.1
  refine zCn_ofV (own := RX11) (by decide) rfl hw (Nat.le_of_ble_eq_true rfl) [(0, rn w p0)] rfl ?_
  intro κ hl
  subst hl
  unfold f_X11_readCondition
  refine zv_rload_n dX11_readCondition_0 0 rfl ?_
  refine zv_iconst (z := 0) dX11_readCondition_1 ?_
  refine zp_RX11_288 dX11_readCondition_2 hp0 (fun M1 => ?_)
  refine zv_rload_n dX11_readCondition_5 0 rfl ?_
  refine zg_RX11_115 dX11_readCondition_6 hp0 ?_
  refine zv_iconst (z := 0) dX11_readCondition_9 ?_
  refine zv_iconst (z := 0) dX11_readCondition_10 ?_
  refine zv_iast dX11_readCondition_11 (zta_11_44 hT hp0) (ztl_11_44 hT hp0) (by decide) (fun M2 => ?_)
  refine zv_iconst (z := 1) dX11_readCondition_12 ?_
  refine zv_istore_np (L' := [(1, iv 1), (0, rn w p0)]) (by rfl) dX11_readCondition_13 (by decide) rfl ?_
  refine zv_joinS1 (fun r => r) 55 (fun M15 => [(0, rn w p0)]) (fun M15 => []) (fun M15 => M15) (zv_sub (L' := [(1, iv 1), (0, rn w p0)]) [0, 1] rfl (vl_X11_readCondition_14 hw p0 hp0 _ (fun _ h => ((fun h => h)) h) (fun _ h => ((fun h => h)) h) 1 M2)) (fun M15 => ?_)
  refine zv_rload_n dX11_readCondition_55 0 rfl ?_
  refine zv_vc (zv_callVv [] (c_X11_errs κ.2.1 hw p0 M15 hp0) zmd_X11_errs zwI_X11_errs zwS_X11_errs zwM_RX11_230 zcd_11 hp0 rfl (by decide) rfl (Nat.le_of_ble_eq_true rfl) dX11_readCondition_56 (fun M16 _ _ => ?_))
  exact zv_ret (fun h => h) (zv_vret (v := 0) dX11_readCondition_59)
def f_X11_readSea (k : zK)  (p0 : Nat) (p1 : Int) (M0 : zM) : Option zM :=
  zbd (f_X11_numeral k p0 0 99 M0) (fun M2 v1 => zgd (0 ≤ p1 ∧ p1 < 80) (zlt (zst M2 (zfr k p0 23) p1.toNat (v1)) (fun M3 => zbd (f_X11_numeral k p0 0 99 M3) (fun M5 v4 => zgd (0 ≤ p1 ∧ p1 < 80) (zlt (zst M5 (zfr k p0 24) p1.toNat (v4)) (fun M6 => zgd (0 ≤ p1 ∧ p1 < 80) (zgd (0 ≤ p1 ∧ p1 < 80) (zlt (zst M6 (zfr k p0 25) p1.toNat (M6 (zfr k p0 24) p1.toNat)) (fun M7 => zb1 (f_X11_is k p0 555 M7) (fun v8 => zbr v8 0 (¬ v8 = 0) (zb1 (f_X11_next k p0 M7) (fun M10 => zgd (0 ≤ p1 ∧ p1 < 80) (zbd (f_X11_numeral k p0 (M10 (zfr k p0 24) p1.toNat) 99 M10) (fun M12 v11 => zgd (0 ≤ p1 ∧ p1 < 80) (zlt (zst M12 (zfr k p0 25) p1.toNat (v11)) (fun M13 => some M13)))))) (some M7)))))))))))
theorem c_X11_readSea (l : Launch) {w : zW} (hw : zWk w)  (p0 : Nat) (p1 : Int) (M0 : zM) (hp0 : ztag w.1 p0 = 12) : zCn l yX11_readSea cX11_readSea 2 none (3) 0 w [rn w p0, iv p1] M0 ((f_X11_readSea w.1 p0 p1 M0).map fun m => (m, (0 : Int))) := by
  have hT := hw.1
  refine zCn_ofV (own := RX11) (by decide) rfl hw (Nat.le_of_ble_eq_true rfl) [(0, rn w p0), (1, iv p1)] rfl ?_
  intro κ hl
  subst hl
  unfold f_X11_readSea
  refine zv_rload_n dX11_readSea_0 0 rfl ?_
  refine zg_RX11_77 dX11_readSea_1 hp0 ?_
  refine zv_iload_n dX11_readSea_4 1 rfl ?_
  refine zv_rload_n dX11_readSea_5 0 rfl ?_
  refine zv_iconst (z := 0) dX11_readSea_6 ?_
  refine zv_bipush (z := 99) dX11_readSea_7 (by decide) ?_
  refine (zv_callVi [iv 0, iv 99] (c_X11_numeral κ.2.1 hw p0 0 99 M0 hp0) zmd_X11_numeral zwI_X11_numeral zwS_X11_numeral zwM_RX11_280 zcd_11 hp0 rfl (by decide) rfl (Nat.le_of_ble_eq_true rfl) dX11_readSea_9 (fun M2 v1 _ => ?_))
  refine zv_iast dX11_readSea_12 (zta_11_23 hT hp0) (ztl_11_23 hT hp0) (by decide) (fun M3 => ?_)
  refine zv_rload_n dX11_readSea_13 0 rfl ?_
  refine zg_RX11_80 dX11_readSea_14 hp0 ?_
  refine zv_iload_n dX11_readSea_17 1 rfl ?_
  refine zv_rload_n dX11_readSea_18 0 rfl ?_
  refine zv_iconst (z := 0) dX11_readSea_19 ?_
  refine zv_bipush (z := 99) dX11_readSea_20 (by decide) ?_
  refine (zv_callVi [iv 0, iv 99] (c_X11_numeral κ.2.1 hw p0 0 99 M3 hp0) zmd_X11_numeral zwI_X11_numeral zwS_X11_numeral zwM_RX11_280 zcd_11 hp0 rfl (by decide) rfl (Nat.le_of_ble_eq_true rfl) dX11_readSea_22 (fun M5 v4 _ => ?_))
  refine zv_iast dX11_readSea_25 (zta_11_24 hT hp0) (ztl_11_24 hT hp0) (by decide) (fun M6 => ?_)
  refine zv_rload_n dX11_readSea_26 0 rfl ?_
  refine zg_RX11_83 dX11_readSea_27 hp0 ?_
  refine zv_iload_n dX11_readSea_30 1 rfl ?_
  refine zv_rload_n dX11_readSea_31 0 rfl ?_
  refine zg_RX11_80 dX11_readSea_32 hp0 ?_
  refine zv_iload_n dX11_readSea_35 1 rfl ?_
  refine zv_iald dX11_readSea_36 (zta_11_24 hT hp0) (ztl_11_24 hT hp0) (by decide) ?_
  refine zv_iast dX11_readSea_37 (zta_11_25 hT hp0) (ztl_11_25 hT hp0) (by decide) (fun M7 => ?_)
  refine zv_rload_n dX11_readSea_38 0 rfl ?_
  refine zv_ldc2 (z := 555) dX11_readSea_39 zwK_RX11_303 (by decide) ?_
  refine zv_pc (zv_callVi [jv 555] (c_X11_is κ.2.1 hw p0 555 M7 hp0) zmd_X11_is zwI_X11_is zwS_X11_is zwM_RX11_266 zcd_11 hp0 rfl (by decide) rfl (Nat.le_of_ble_eq_true rfl) dX11_readSea_42 (fun mh9 v8 h9 => ?_))
  obtain rfl := zpuE h9
  refine zv_if_ne (tgt := 49) dX11_readSea_45 (by decide) ?_ ?_
  · refine zv_rload_n dX11_readSea_49 0 rfl ?_
    refine zv_vc (zv_callVv [] (c_X11_next κ.2.1 hw p0 M7 hp0) zmd_X11_next zwI_X11_next zwS_X11_next zwM_RX11_233 zcd_11 hp0 rfl (by decide) rfl (Nat.le_of_ble_eq_true rfl) dX11_readSea_50 (fun M10 _ _ => ?_))
    refine zv_rload_n dX11_readSea_53 0 rfl ?_
    refine zg_RX11_83 dX11_readSea_54 hp0 ?_
    refine zv_iload_n dX11_readSea_57 1 rfl ?_
    refine zv_rload_n dX11_readSea_58 0 rfl ?_
    refine zv_rload_n dX11_readSea_59 0 rfl ?_
    refine zg_RX11_80 dX11_readSea_60 hp0 ?_
    refine zv_iload_n dX11_readSea_63 1 rfl ?_
    refine zv_iald dX11_readSea_64 (zta_11_24 hT hp0) (ztl_11_24 hT hp0) (by decide) ?_
    refine zv_bipush (z := 99) dX11_readSea_65 (by decide) ?_
    refine (zv_callVi [iv (M10 (zfr w.1 p0 24) p1.toNat), iv 99] (c_X11_numeral κ.2.1 hw p0 (M10 (zfr w.1 p0 24) p1.toNat) 99 M10 hp0) zmd_X11_numeral zwI_X11_numeral zwS_X11_numeral zwM_RX11_280 zcd_11 hp0 rfl (by decide) rfl (Nat.le_of_ble_eq_true rfl) dX11_readSea_67 (fun M12 v11 _ => ?_))
    refine zv_iast dX11_readSea_70 (zta_11_25 hT hp0) (ztl_11_25 hT hp0) (by decide) (fun M13 => ?_)
    exact zv_ret (fun h => h) (zv_vret (v := 0) dX11_readSea_71)
  exact zv_ret (fun h => h) (zv_vret (v := 0) dX11_readSea_48)
def f_X11_ruleHere (k : zK)  (p0 : Nat) (M0 : zM) : Option Int :=
  zbr (M0 p0 42) 0 (¬ M0 p0 42 = 0) (some (-1)) (zbr (M0 p0 39) 1 (M0 p0 39 = 1) (zbl (M0 p0 41) 13987 (¬ M0 p0 41 = 13987) (zbl (M0 p0 41) 380927 (¬ M0 p0 41 = 380927) (zbl (M0 p0 41) 243356 (¬ M0 p0 41 = 243356) (zbl (M0 p0 41) 125180 (¬ M0 p0 41 = 125180) (zbl (M0 p0 41) 220309 (¬ M0 p0 41 = 220309) (zbl (M0 p0 41) 1627639 (¬ M0 p0 41 = 1627639) (zbl (M0 p0 41) 1628675 (¬ M0 p0 41 = 1628675) (some (-1)) (some 6)) (some 5)) (some 4)) (some 3)) (some 2)) (some 1)) (some 0)) (some (-1)))
set_option maxRecDepth 20000 in
theorem c_X11_ruleHere (l : Launch) {w : zW} (hw : zWk w)  (p0 : Nat) (M0 : zM) (hp0 : ztag w.1 p0 = 12) : zCn l yX11_ruleHere cX11_ruleHere 1 (some .int) (0) 1 w [rn w p0] M0 ((f_X11_ruleHere w.1 p0 M0).map fun v => (M0, v)) := by
  have hT := hw.1
  refine zCn_ofP (own := RX11) (by decide) rfl hw (Nat.le_of_ble_eq_true rfl) [(0, rn w p0)] rfl ?_
  intro κ hl
  subst hl
  unfold f_X11_ruleHere
  refine zv_rload_n dX11_ruleHere_0 0 rfl ?_
  refine zg_RX11_226 dX11_ruleHere_1 hp0 ?_
  refine zv_if_ne (tgt := 15) dX11_ruleHere_4 (by decide) ?_ ?_
  · refine zv_iconst (z := (-1)) dX11_ruleHere_15 ?_
    exact zv_ret (fun h => h) (zv_iret dX11_ruleHere_16)
  refine zv_rload_n dX11_ruleHere_7 0 rfl ?_
  refine zg_RX11_220 dX11_ruleHere_8 hp0 ?_
  refine zv_iconst (z := 1) dX11_ruleHere_11 ?_
  refine zv_icmp_eq (tgt := 17) dX11_ruleHere_12 (by decide) ?_ ?_
  · refine zv_rload_n dX11_ruleHere_17 0 rfl ?_
    refine zg_RX11_213 dX11_ruleHere_18 hp0 ?_
    refine zv_ldc2 (z := 13987) dX11_ruleHere_21 zwK_RX11_236 (by decide) ?_
    refine zv_lcmp_ne (tgt := 30) dX11_ruleHere_24 dX11_ruleHere_25 (by decide) ?_ ?_
    · refine zv_rload_n dX11_ruleHere_30 0 rfl ?_
      refine zg_RX11_213 dX11_ruleHere_31 hp0 ?_
      refine zv_ldc2 (z := 380927) dX11_ruleHere_34 zwK_RX11_238 (by decide) ?_
      refine zv_lcmp_ne (tgt := 43) dX11_ruleHere_37 dX11_ruleHere_38 (by decide) ?_ ?_
      · refine zv_rload_n dX11_ruleHere_43 0 rfl ?_
        refine zg_RX11_213 dX11_ruleHere_44 hp0 ?_
        refine zv_ldc2 (z := 243356) dX11_ruleHere_47 zwK_RX11_240 (by decide) ?_
        refine zv_lcmp_ne (tgt := 56) dX11_ruleHere_50 dX11_ruleHere_51 (by decide) ?_ ?_
        · refine zv_rload_n dX11_ruleHere_56 0 rfl ?_
          refine zg_RX11_213 dX11_ruleHere_57 hp0 ?_
          refine zv_ldc2 (z := 125180) dX11_ruleHere_60 zwK_RX11_242 (by decide) ?_
          refine zv_lcmp_ne (tgt := 69) dX11_ruleHere_63 dX11_ruleHere_64 (by decide) ?_ ?_
          · refine zv_rload_n dX11_ruleHere_69 0 rfl ?_
            refine zg_RX11_213 dX11_ruleHere_70 hp0 ?_
            refine zv_ldc2 (z := 220309) dX11_ruleHere_73 zwK_RX11_244 (by decide) ?_
            refine zv_lcmp_ne (tgt := 82) dX11_ruleHere_76 dX11_ruleHere_77 (by decide) ?_ ?_
            · refine zv_rload_n dX11_ruleHere_82 0 rfl ?_
              refine zg_RX11_213 dX11_ruleHere_83 hp0 ?_
              refine zv_ldc2 (z := 1627639) dX11_ruleHere_86 zwK_RX11_246 (by decide) ?_
              refine zv_lcmp_ne (tgt := 95) dX11_ruleHere_89 dX11_ruleHere_90 (by decide) ?_ ?_
              · refine zv_rload_n dX11_ruleHere_95 0 rfl ?_
                refine zg_RX11_213 dX11_ruleHere_96 hp0 ?_
                refine zv_ldc2 (z := 1628675) dX11_ruleHere_99 zwK_RX11_248 (by decide) ?_
                refine zv_lcmp_ne (tgt := 109) dX11_ruleHere_102 dX11_ruleHere_103 (by decide) ?_ ?_
                · refine zv_iconst (z := (-1)) dX11_ruleHere_109 ?_
                  exact zv_ret (fun h => h) (zv_iret dX11_ruleHere_110)
                refine zv_bipush (z := 6) dX11_ruleHere_106 (by decide) ?_
                exact zv_ret (fun h => h) (zv_iret dX11_ruleHere_108)
              refine zv_iconst (z := 5) dX11_ruleHere_93 ?_
              exact zv_ret (fun h => h) (zv_iret dX11_ruleHere_94)
            refine zv_iconst (z := 4) dX11_ruleHere_80 ?_
            exact zv_ret (fun h => h) (zv_iret dX11_ruleHere_81)
          refine zv_iconst (z := 3) dX11_ruleHere_67 ?_
          exact zv_ret (fun h => h) (zv_iret dX11_ruleHere_68)
        refine zv_iconst (z := 2) dX11_ruleHere_54 ?_
        exact zv_ret (fun h => h) (zv_iret dX11_ruleHere_55)
      refine zv_iconst (z := 1) dX11_ruleHere_41 ?_
      exact zv_ret (fun h => h) (zv_iret dX11_ruleHere_42)
    refine zv_iconst (z := 0) dX11_ruleHere_28 ?_
    exact zv_ret (fun h => h) (zv_iret dX11_ruleHere_29)
  refine zv_iconst (z := (-1)) dX11_ruleHere_15 ?_
  exact zv_ret (fun h => h) (zv_iret dX11_ruleHere_16)
def f_X11_readRule (k : zK)  (p0 : Nat) (M0 : zM) : Option zM :=
  zgd (0 ≤ (1 : Int) ∧ (1 : Int) < 2) (zlt (40 + (M0 (zfr k p0 21) (Int.toNat 1))) (fun x1 => zb1 (f_X11_ruleHere k p0 M0) (fun v2 => zsp1 (zbr v2 0 (v2 < 0) (some (.inl M0)) (zgd (0 ≤ (1 : Int) ∧ (1 : Int) < 2) (zbr (M0 (zfr k p0 21) (Int.toNat 1)) 40 (¬ M0 (zfr k p0 21) (Int.toNat 1) = 40) (zb1 (f_X11_next k p0 M0) (fun M4 => zgd (0 ≤ x1 ∧ x1 < 80) (zlt (zst M4 (zfr k p0 22) x1.toNat (v2)) (fun M5 => zgd (0 ≤ x1 ∧ x1 < 80) (zlt (zst M5 (zfr k p0 26) x1.toNat (M5 p0 28)) (fun M6 => zb1 (zbr v2 0 (¬ v2 = 0) (zbr v2 5 (¬ v2 = 5) (zb1 (zbr v2 4 (¬ v2 = 4) (zbr v2 6 (¬ v2 = 6) (some (99)) (some (10))) (some (100))) (fun x7 => zbd (f_X11_numeral k p0 0 x7 M6) (fun M9 v8 => zgd (0 ≤ x1 ∧ x1 < 80) (zlt (zst M9 (zfr k p0 23) x1.toNat (v8)) (fun M10 => zbr v2 6 (v2 = 6) (some (M10)) (zb1 (f_X11_is k p0 249 M10) (fun v11 => zbr v11 0 (v11 = 0) (some (M10)) (zb1 (f_X11_next k p0 M10) (fun M13 => zb1 (f_X11_readCondition k p0 M13) (fun M14 => some (M14))))))))))) (zbd (f_X11_howHere k p0 M6) (fun M16 v15 => zgd (0 ≤ x1 ∧ x1 < 80) (zlt (zst M16 (zfr k p0 24) x1.toNat (v15)) (fun M17 => zbd (f_X11_numeral k p0 0 100 M17) (fun M19 v18 => zgd (0 ≤ x1 ∧ x1 < 80) (zlt (zst M19 (zfr k p0 23) x1.toNat (v18)) (fun M20 => some (M20))))))))) (zb1 (f_X11_readSea k p0 x1 M6) (fun M21 => some (M21)))) (fun M22 => zgd (0 ≤ x1 ∧ x1 < 80) (zlt (zst M22 (zfr k p0 27) x1.toNat (M22 p0 28)) (fun M23 => zb1 (zbr (M23 p0 42) 0 (¬ M23 p0 42 = 0) (some (M23)) (zbr (M23 p0 39) 59 (M23 p0 39 = 59) (some (M23)) (zb1 (f_X11_errs k p0 M23) (fun M24 => some (M24))))) (fun M25 => zbr (M25 p0 42) 0 (M25 p0 42 = 0) (zb1 (f_X11_next k p0 M25) (fun M26 => zgd (0 ≤ (1 : Int) ∧ (1 : Int) < 2) (zgd (0 ≤ (1 : Int) ∧ (1 : Int) < 2) (zlt (zst M26 (zfr k p0 21) (Int.toNat 1) ((M26 (zfr k p0 21) (Int.toNat 1)) + 1)) (fun M27 => some (.inr M27)))))) (some (.inr M25)))))))))))) (some (.inl M0))))) (fun r => some r) (fun M28 => zb1 (f_X11_errs k p0 M28) (fun M29 => some M29)))))
set_option maxRecDepth 20000 in
theorem c_X11_readRule (l : Launch) {w : zW} (hw : zWk w)  (p0 : Nat) (M0 : zM) (hp0 : ztag w.1 p0 = 12) : zCn l yX11_readRule cX11_readRule 3 none (5) 0 w [rn w p0] M0 ((f_X11_readRule w.1 p0 M0).map fun m => (m, (0 : Int))) := by
  have hT := hw.1
  refine zCn_ofV (own := RX11) (by decide) rfl hw (Nat.le_of_ble_eq_true rfl) [(0, rn w p0)] rfl ?_
  intro κ hl
  subst hl
  unfold f_X11_readRule
  refine zv_bipush (z := 40) dX11_readRule_0 (by decide) ?_
  refine zv_rload_n dX11_readRule_2 0 rfl ?_
  refine zg_RX11_71 dX11_readRule_3 hp0 ?_
  refine zv_iconst (z := 1) dX11_readRule_6 ?_
  refine zv_iald dX11_readRule_7 (zta_11_21 hT hp0) (ztl_11_21 hT hp0) (by decide) ?_
  refine zv_iadd dX11_readRule_8 ?_
  refine zv_istore_n (i := 1) (by rfl) dX11_readRule_9 (fun x1 => [(1, iv x1), (0, rn w p0)]) (by decide) (fun _ => rfl) (fun x1 => ?_)
  refine zv_rload_n dX11_readRule_10 1 rfl ?_
  refine zv_pc (zv_callVi [] (c_X11_ruleHere κ.2.1 hw p0 M0 hp0) zmd_X11_ruleHere zwI_X11_ruleHere zwS_X11_ruleHere zwM_RX11_305 zcd_11 hp0 rfl (by decide) rfl (Nat.le_of_ble_eq_true rfl) dX11_readRule_11 (fun mh3 v2 h3 => ?_))
  obtain rfl := zpuE h3
  refine zv_istore_np (L' := [(2, iv v2), (1, iv x1), (0, rn w p0)]) (by rfl) dX11_readRule_14 (by decide) rfl ?_
  refine zv_iload_n dX11_readRule_15 0 rfl ?_
  refine zv_joinS1 (fun r => r) 30 (fun M28 => [(0, rn w p0)]) (fun M28 => []) (fun M28 => M28) ?_ (fun M28 => ?_)
  · refine zv_if_lt (tgt := 30) dX11_readRule_16 (by decide) ?_ ?_
    · exact zv_sub (L' := [(0, rn w p0)]) [2] rfl (zv_exit (fun h => h))
    refine zv_rload_n dX11_readRule_19 2 rfl ?_
    refine zg_RX11_71 dX11_readRule_20 hp0 ?_
    refine zv_iconst (z := 1) dX11_readRule_23 ?_
    refine zv_iald dX11_readRule_24 (zta_11_21 hT hp0) (ztl_11_21 hT hp0) (by decide) ?_
    refine zv_bipush (z := 40) dX11_readRule_25 (by decide) ?_
    refine zv_icmp_ne (tgt := 35) dX11_readRule_27 (by decide) ?_ ?_
    · refine zv_rload_n dX11_readRule_35 2 rfl ?_
      refine zv_vc (zv_callVv [] (c_X11_next κ.2.1 hw p0 M0 hp0) zmd_X11_next zwI_X11_next zwS_X11_next zwM_RX11_233 zcd_11 hp0 rfl (by decide) rfl (Nat.le_of_ble_eq_true rfl) dX11_readRule_36 (fun M4 _ _ => ?_))
      refine zv_rload_n dX11_readRule_39 2 rfl ?_
      refine zg_RX11_74 dX11_readRule_40 hp0 ?_
      refine zv_iload_n dX11_readRule_43 1 rfl ?_
      refine zv_iload_n dX11_readRule_44 0 rfl ?_
      refine zv_iast dX11_readRule_45 (zta_11_22 hT hp0) (ztl_11_22 hT hp0) (by decide) (fun M5 => ?_)
      refine zv_rload_n dX11_readRule_46 2 rfl ?_
      refine zg_RX11_86 dX11_readRule_47 hp0 ?_
      refine zv_iload_n dX11_readRule_50 1 rfl ?_
      refine zv_rload_n dX11_readRule_51 2 rfl ?_
      refine zg_RX11_274 dX11_readRule_52 hp0 ?_
      refine zv_iast dX11_readRule_55 (zta_11_26 hT hp0) (ztl_11_26 hT hp0) (by decide) (fun M6 => ?_)
      refine zv_iload_n dX11_readRule_56 0 rfl ?_
      refine zv_join1 157 (fun M22 => [(1, iv x1), (0, rn w p0)]) (fun M22 => []) (fun M22 => M22) ?_ (fun M22 => ?_)
      · refine zv_if_ne (tgt := 68) dX11_readRule_57 (by decide) ?_ ?_
        · refine zv_iload_n dX11_readRule_68 0 rfl ?_
          refine zv_iconst (z := 5) dX11_readRule_69 ?_
          refine zv_icmp_ne (tgt := 99) dX11_readRule_70 (by decide) ?_ ?_
          · refine zv_rload_n dX11_readRule_99 2 rfl ?_
            refine zg_RX11_77 dX11_readRule_100 hp0 ?_
            refine zv_iload_n dX11_readRule_103 1 rfl ?_
            refine zv_rload_n dX11_readRule_104 2 rfl ?_
            refine zv_iconst (z := 0) dX11_readRule_105 ?_
            refine zv_iload_n dX11_readRule_106 0 rfl ?_
            refine zv_iconst (z := 4) dX11_readRule_107 ?_
            refine zv_join1 129 (fun x7 => [(2, iv v2), (1, iv x1), (0, rn w p0)]) (fun x7 => [iv x7, iv 0, rn w p0, iv x1, rn w (zfr w.1 p0 23)]) (fun x7 => M6) ?_ (fun x7 => ?_)
            · refine zv_icmp_ne (tgt := 116) dX11_readRule_108 (by decide) ?_ ?_
              · refine zv_iload_n dX11_readRule_116 0 rfl ?_
                refine zv_bipush (z := 6) dX11_readRule_117 (by decide) ?_
                refine zv_icmp_ne (tgt := 127) dX11_readRule_119 (by decide) ?_ ?_
                · refine zv_bipush (z := 99) dX11_readRule_127 (by decide) ?_
                  exact zv_sub (L' := [(2, iv v2), (1, iv x1), (0, rn w p0)]) [0, 1, 2] rfl (zv_exit (fun h => h))
                refine zv_bipush (z := 10) dX11_readRule_122 (by decide) ?_
                refine zv_goto (tgt := 129) dX11_readRule_124 (by decide) ?_
                exact zv_sub (L' := [(2, iv v2), (1, iv x1), (0, rn w p0)]) [0, 1, 2] rfl (zv_exit (fun h => h))
              refine zv_bipush (z := 100) dX11_readRule_111 (by decide) ?_
              refine zv_goto (tgt := 129) dX11_readRule_113 (by decide) ?_
              exact zv_sub (L' := [(2, iv v2), (1, iv x1), (0, rn w p0)]) [0, 1, 2] rfl (zv_exit (fun h => h))
            refine (zv_callVi [iv 0, iv x7] (c_X11_numeral κ.2.1 hw p0 0 x7 M6 hp0) zmd_X11_numeral zwI_X11_numeral zwS_X11_numeral zwM_RX11_280 zcd_11 hp0 rfl (by decide) rfl (Nat.le_of_ble_eq_true rfl) dX11_readRule_129 (fun M9 v8 _ => ?_))
            refine zv_iast dX11_readRule_132 (zta_11_23 hT hp0) (ztl_11_23 hT hp0) (by decide) (fun M10 => ?_)
            refine zv_iload_n dX11_readRule_133 0 rfl ?_
            refine zv_bipush (z := 6) dX11_readRule_134 (by decide) ?_
            refine zv_icmp_eq (tgt := 157) dX11_readRule_136 (by decide) ?_ ?_
            · exact zv_sub (L' := [(1, iv x1), (0, rn w p0)]) [1, 2] rfl (zv_exit (fun h => h))
            refine zv_rload_n dX11_readRule_139 2 rfl ?_
            refine zv_ldc2 (z := 249) dX11_readRule_140 zwK_RX11_315 (by decide) ?_
            refine zv_pc (zv_callVi [jv 249] (c_X11_is κ.2.1 hw p0 249 M10 hp0) zmd_X11_is zwI_X11_is zwS_X11_is zwM_RX11_266 zcd_11 hp0 rfl (by decide) rfl (Nat.le_of_ble_eq_true rfl) dX11_readRule_143 (fun mh12 v11 h12 => ?_))
            obtain rfl := zpuE h12
            refine zv_if_eq (tgt := 157) dX11_readRule_146 (by decide) ?_ ?_
            · exact zv_sub (L' := [(1, iv x1), (0, rn w p0)]) [1, 2] rfl (zv_exit (fun h => h))
            refine zv_rload_n dX11_readRule_149 2 rfl ?_
            refine zv_vc (zv_callVv [] (c_X11_next κ.2.1 hw p0 M10 hp0) zmd_X11_next zwI_X11_next zwS_X11_next zwM_RX11_233 zcd_11 hp0 rfl (by decide) rfl (Nat.le_of_ble_eq_true rfl) dX11_readRule_150 (fun M13 _ _ => ?_))
            refine zv_rload_n dX11_readRule_153 2 rfl ?_
            refine zv_vc (zv_callVv [] (c_X11_readCondition κ.2.1 hw p0 M13 hp0) zmd_X11_readCondition zwI_X11_readCondition zwS_X11_readCondition zwM_RX11_317 zcd_11 hp0 rfl (by decide) rfl (Nat.le_of_ble_eq_true rfl) dX11_readRule_154 (fun M14 _ _ => ?_))
            exact zv_sub (L' := [(1, iv x1), (0, rn w p0)]) [1, 2] rfl (zv_exit (fun h => h))
          refine zv_rload_n dX11_readRule_73 2 rfl ?_
          refine zg_RX11_80 dX11_readRule_74 hp0 ?_
          refine zv_iload_n dX11_readRule_77 1 rfl ?_
          refine zv_rload_n dX11_readRule_78 2 rfl ?_
          refine (zv_callVi [] (c_X11_howHere κ.2.1 hw p0 M6 hp0) zmd_X11_howHere zwI_X11_howHere zwS_X11_howHere zwM_RX11_312 zcd_11 hp0 rfl (by decide) rfl (Nat.le_of_ble_eq_true rfl) dX11_readRule_79 (fun M16 v15 _ => ?_))
          refine zv_iast dX11_readRule_82 (zta_11_24 hT hp0) (ztl_11_24 hT hp0) (by decide) (fun M17 => ?_)
          refine zv_rload_n dX11_readRule_83 2 rfl ?_
          refine zg_RX11_77 dX11_readRule_84 hp0 ?_
          refine zv_iload_n dX11_readRule_87 1 rfl ?_
          refine zv_rload_n dX11_readRule_88 2 rfl ?_
          refine zv_iconst (z := 0) dX11_readRule_89 ?_
          refine zv_bipush (z := 100) dX11_readRule_90 (by decide) ?_
          refine (zv_callVi [iv 0, iv 100] (c_X11_numeral κ.2.1 hw p0 0 100 M17 hp0) zmd_X11_numeral zwI_X11_numeral zwS_X11_numeral zwM_RX11_280 zcd_11 hp0 rfl (by decide) rfl (Nat.le_of_ble_eq_true rfl) dX11_readRule_92 (fun M19 v18 _ => ?_))
          refine zv_iast dX11_readRule_95 (zta_11_23 hT hp0) (ztl_11_23 hT hp0) (by decide) (fun M20 => ?_)
          refine zv_goto (tgt := 157) dX11_readRule_96 (by decide) ?_
          exact zv_sub (L' := [(1, iv x1), (0, rn w p0)]) [1, 2] rfl (zv_exit (fun h => h))
        refine zv_rload_n dX11_readRule_60 2 rfl ?_
        refine zv_iload_n dX11_readRule_61 1 rfl ?_
        refine zv_vc (zv_callVv [iv x1] (c_X11_readSea κ.2.1 hw p0 x1 M6 hp0) zmd_X11_readSea zwI_X11_readSea zwS_X11_readSea zwM_RX11_308 zcd_11 hp0 rfl (by decide) rfl (Nat.le_of_ble_eq_true rfl) dX11_readRule_62 (fun M21 _ _ => ?_))
        refine zv_goto (tgt := 157) dX11_readRule_65 (by decide) ?_
        exact zv_sub (L' := [(1, iv x1), (0, rn w p0)]) [1, 2] rfl (zv_exit (fun h => h))
      refine zv_rload_n dX11_readRule_157 1 rfl ?_
      refine zg_RX11_89 dX11_readRule_158 hp0 ?_
      refine zv_iload_n dX11_readRule_161 0 rfl ?_
      refine zv_rload_n dX11_readRule_162 1 rfl ?_
      refine zg_RX11_274 dX11_readRule_163 hp0 ?_
      refine zv_iast dX11_readRule_166 (zta_11_27 hT hp0) (ztl_11_27 hT hp0) (by decide) (fun M23 => ?_)
      refine zv_rload_n dX11_readRule_167 1 rfl ?_
      refine zg_RX11_226 dX11_readRule_168 hp0 ?_
      refine zv_join1 187 (fun M25 => [(0, rn w p0)]) (fun M25 => []) (fun M25 => M25) ?_ (fun M25 => ?_)
      · refine zv_if_ne (tgt := 187) dX11_readRule_171 (by decide) ?_ ?_
        · exact zv_sub (L' := [(0, rn w p0)]) [1] rfl (zv_exit (fun h => h))
        refine zv_rload_n dX11_readRule_174 1 rfl ?_
        refine zg_RX11_220 dX11_readRule_175 hp0 ?_
        refine zv_bipush (z := 59) dX11_readRule_178 (by decide) ?_
        refine zv_icmp_eq (tgt := 187) dX11_readRule_180 (by decide) ?_ ?_
        · exact zv_sub (L' := [(0, rn w p0)]) [1] rfl (zv_exit (fun h => h))
        refine zv_rload_n dX11_readRule_183 1 rfl ?_
        refine zv_vc (zv_callVv [] (c_X11_errs κ.2.1 hw p0 M23 hp0) zmd_X11_errs zwI_X11_errs zwS_X11_errs zwM_RX11_230 zcd_11 hp0 rfl (by decide) rfl (Nat.le_of_ble_eq_true rfl) dX11_readRule_184 (fun M24 _ _ => ?_))
        exact zv_sub (L' := [(0, rn w p0)]) [1] rfl (zv_exit (fun h => h))
      refine zv_rload_n dX11_readRule_187 0 rfl ?_
      refine zg_RX11_226 dX11_readRule_188 hp0 ?_
      refine zv_if_eq (tgt := 195) dX11_readRule_191 (by decide) ?_ ?_
      · refine zv_rload_n dX11_readRule_195 0 rfl ?_
        refine zv_vc (zv_callVv [] (c_X11_next κ.2.1 hw p0 M25 hp0) zmd_X11_next zwI_X11_next zwS_X11_next zwM_RX11_233 zcd_11 hp0 rfl (by decide) rfl (Nat.le_of_ble_eq_true rfl) dX11_readRule_196 (fun M26 _ _ => ?_))
        refine zv_rload_n dX11_readRule_199 0 rfl ?_
        refine zg_RX11_71 dX11_readRule_200 hp0 ?_
        refine zv_iconst (z := 1) dX11_readRule_203 ?_
        refine zv_dup2 dX11_readRule_204 rfl rfl ?_
        refine zv_iald dX11_readRule_205 (zta_11_21 hT hp0) (ztl_11_21 hT hp0) (by decide) ?_
        refine zv_iconst (z := 1) dX11_readRule_206 ?_
        refine zv_iadd dX11_readRule_207 ?_
        refine zv_iast dX11_readRule_208 (zta_11_21 hT hp0) (ztl_11_21 hT hp0) (by decide) (fun M27 => ?_)
        exact zv_ret (fun h => h) (zv_vret (v := 0) dX11_readRule_209)
      exact zv_ret (fun h => h) (zv_vret (v := 0) dX11_readRule_194)
    exact zv_sub (L' := [(0, rn w p0)]) [2] rfl (zv_exit (fun h => h))
  refine zv_rload_n dX11_readRule_30 0 rfl ?_
  refine zv_vc (zv_callVv [] (c_X11_errs κ.2.1 hw p0 M28 hp0) zmd_X11_errs zwI_X11_errs zwS_X11_errs zwM_RX11_230 zcd_11 hp0 rfl (by decide) rfl (Nat.le_of_ble_eq_true rfl) dX11_readRule_31 (fun M29 _ _ => ?_))
  exact zv_ret (fun h => h) (zv_vret (v := 0) dX11_readRule_34)
def fb_X11_law_68 (k : zK)  (l0 : Nat) (M0 : zM) : Option ((zM) ⊕ (zM)) :=
  zbr (M0 l0 39) 0 (M0 l0 39 = 0) (some (.inr M0)) (zbr (M0 l0 42) 0 (¬ M0 l0 42 = 0) (some (.inr M0)) (zb1 (f_X11_readRule k l0 M0) (fun M9 => some (.inl (M9)))))
def fb_X11_law_116 (k : zK)  (l0 : Nat) (y2 : Int) (M0 : zM) : Option ((Int × zM) ⊕ (zM)) :=
  zbr y2 40 (40 ≤ y2) (some (.inr M0)) (zgd (0 ≤ 40 + y2 ∧ 40 + y2 < 80) (zgd (0 ≤ y2 ∧ y2 < 80) (zlt (zst M0 (zfr k l0 22) y2.toNat (M0 (zfr k l0 22) (40 + y2).toNat)) (fun M12 => zgd (0 ≤ 40 + y2 ∧ 40 + y2 < 80) (zgd (0 ≤ y2 ∧ y2 < 80) (zlt (zst M12 (zfr k l0 23) y2.toNat (M12 (zfr k l0 23) (40 + y2).toNat)) (fun M13 => zgd (0 ≤ 40 + y2 ∧ 40 + y2 < 80) (zgd (0 ≤ y2 ∧ y2 < 80) (zlt (zst M13 (zfr k l0 24) y2.toNat (M13 (zfr k l0 24) (40 + y2).toNat)) (fun M14 => zgd (0 ≤ 40 + y2 ∧ 40 + y2 < 80) (zgd (0 ≤ y2 ∧ y2 < 80) (zlt (zst M14 (zfr k l0 25) y2.toNat (M14 (zfr k l0 25) (40 + y2).toNat)) (fun M15 => zgd (0 ≤ 40 + y2 ∧ 40 + y2 < 80) (zgd (0 ≤ y2 ∧ y2 < 80) (zlt (zst M15 (zfr k l0 26) y2.toNat ((M15 (zfr k l0 26) (40 + y2).toNat) - 1000)) (fun M16 => zgd (0 ≤ 40 + y2 ∧ 40 + y2 < 80) (zgd (0 ≤ y2 ∧ y2 < 80) (zlt (zst M16 (zfr k l0 27) y2.toNat ((M16 (zfr k l0 27) (40 + y2).toNat) - 1000)) (fun M17 => zlt (y2 + 1) (fun x18 => some (.inl (x18, M17))))))))))))))))))))))
def fb_X11_law_228 (k : zK)  (l0 : Nat) (y2 : Int) (M0 : zM) : Option ((Int × zM) ⊕ (zM)) :=
  zbr y2 1000 (1000 ≤ y2) (some (.inr M0)) (zgd (0 ≤ 1000 + y2 ∧ 1000 + y2 < 2000) (zgd (0 ≤ y2 ∧ y2 < 2000) (zlt (zst M0 (zfr k l0 29) y2.toNat (M0 (zfr k l0 29) (1000 + y2).toNat)) (fun M20 => zgd (0 ≤ 1000 + y2 ∧ 1000 + y2 < 2000) (zgd (0 ≤ y2 ∧ y2 < 2000) (zlt (zst M20 (zfr k l0 30) y2.toNat (M20 (zfr k l0 30) (1000 + y2).toNat)) (fun M21 => zgd (0 ≤ 1000 + y2 ∧ 1000 + y2 < 2000) (zgd (0 ≤ y2 ∧ y2 < 2000) (zlt (zst M21 (zfr k l0 31) y2.toNat (M21 (zfr k l0 31) (1000 + y2).toNat)) (fun M22 => zgd (0 ≤ 1000 + y2 ∧ 1000 + y2 < 2000) (zgd (0 ≤ y2 ∧ y2 < 2000) (zlt (zst M22 (zfr k l0 32) y2.toNat (M22 (zfr k l0 32) (1000 + y2).toNat)) (fun M23 => zlt (y2 + 1) (fun x24 => some (.inl (x24, M23))))))))))))))))
def f_X11_law (k : zK)  (p0 : Nat) (p1 : Int) (M0 : zM) : Option (zM × Int) :=
  zsp1 (zbr p1 0 (p1 < 0) (some (.inl M0)) (zbr p1 (M0 p0 34) (p1 ≤ M0 p0 34) (zlt (zst M0 p0 36 p1) (fun M1 => zlt (zst M1 p0 34 0) (fun M2 => zlt (zst M2 p0 37 0) (fun M3 => zlt (zst M3 p0 35 (-1)) (fun M4 => zgd ((0 : Int) = 0 ∨ (0 : Int) = 1) (zlt (zst M4 p0 42 0) (fun M5 => zlt (zst M5 p0 28 1000) (fun M6 => zgd (0 ≤ (1 : Int) ∧ (1 : Int) < 2) (zlt (zst M6 (zfr k p0 21) (Int.toNat 1) (0)) (fun M7 => zb1 (f_X11_next k p0 M7) (fun M8 => zb1 (zw1 (fb_X11_law_68 k p0) zfu M8) (fun M10 => zbr (M10 p0 42) 0 (M10 p0 42 = 0) (zgd (0 ≤ (1 : Int) ∧ (1 : Int) < 2) (zgd (0 ≤ (0 : Int) ∧ (0 : Int) < 2) (zlt (zst M10 (zfr k p0 21) (Int.toNat 0) (M10 (zfr k p0 21) (Int.toNat 1))) (fun M11 => zb1 (zw2 (fb_X11_law_116 k p0) zfu 0 M11) (fun M19 => zb1 (zw2 (fb_X11_law_228 k p0) zfu 0 M19) (fun M25 => zgd (0 ≤ (0 : Int) ∧ (0 : Int) < 2) (some (.inr (M25, M25 (zfr k p0 21) (Int.toNat 0)))))))))) (zbd (f_X11_refuses k p0 2 M10) (fun M27 v26 => some (.inr (M27, v26)))))))))))))))) (some (.inl M0)))) (fun r => some r) (fun M28 => zgd (0 ≤ (0 : Int) ∧ (0 : Int) < 3) (zgd (0 ≤ (0 : Int) ∧ (0 : Int) < 3) (zlt (zst M28 (zfr k p0 0) (Int.toNat 0) ((M28 (zfr k p0 0) (Int.toNat 0)) + 1)) (fun M29 => some (M29, (-2))))))
theorem vl_X11_law_68 {κ : zC} {w : zW} (hw : zWk w)  (l0 : Nat) (g0 : ztag w.1 l0 = 12)  (E : (zM) → Prop) (hX : ∀  (M1 : zM), E M1 → zB cX11_law RX11 3 (some .int) κ w (0, 0, 6) 89 [(0, rn w l0)] [] M1)  (M0 : zM) :
    zV cX11_law RX11 3 (some .int) κ w (0, 0, 6) 68 [(0, rn w l0)] [] M0 (zw1 (fb_X11_law_68 w.1 l0) zfu M0) E := by
  have hT := hw.1
  refine zv_loop1 (fun M0 => [(0, rn w l0)]) (fun M0 => M0) (fun M0 => ?_) M0
  unfold fb_X11_law_68
  refine zv_rload_n dX11_law_68 0 rfl ?_
  refine zg_RX11_220 dX11_law_69 g0 ?_
  refine zv_if_eq (tgt := 89) dX11_law_72 (by decide) ?_ ?_
  · exact zv_sub (L' := [(0, rn w l0)]) [0] rfl (zv_exit (fun h => hX _ h))
  refine zv_rload_n dX11_law_75 0 rfl ?_
  refine zg_RX11_226 dX11_law_76 g0 ?_
  refine zv_if_ne (tgt := 89) dX11_law_79 (by decide) ?_ ?_
  · exact zv_sub (L' := [(0, rn w l0)]) [0] rfl (zv_exit (fun h => hX _ h))
  refine zv_rload_n dX11_law_82 0 rfl ?_
  refine zv_vc (zv_callVv [] (c_X11_readRule κ.2.1 hw l0 M0 g0) zmd_X11_readRule zwI_X11_readRule zwS_X11_readRule zwM_RX11_320 zcd_11 g0 rfl (by decide) rfl (Nat.le_of_ble_eq_true rfl) dX11_law_83 (fun M9 _ _ => ?_))
  refine zv_goto (tgt := 68) dX11_law_86 (by decide) ?_
  exact zv_sub (L' := [(0, rn w l0)]) [0] rfl (zv_exit (fun h => h))
set_option maxRecDepth 20000 in
theorem vl_X11_law_116 {κ : zC} {w : zW} (hw : zWk w)  (l0 : Nat) (g0 : ztag w.1 l0 = 12)  (E : (zM) → Prop) (hX : ∀  (M1 : zM), E M1 → zB cX11_law RX11 3 (some .int) κ w (0, 0, 6) 226 [(0, rn w l0)] [] M1)  (y2 : Int) (M0 : zM) :
    zV cX11_law RX11 3 (some .int) κ w (0, 0, 6) 116 [(2, iv y2), (0, rn w l0)] [] M0 (zw2 (fb_X11_law_116 w.1 l0) zfu y2 M0) E := by
  have hT := hw.1
  refine zv_loop2 (fun y2 M0 => [(2, iv y2), (0, rn w l0)]) (fun y2 M0 => M0) (fun y2 M0 => ?_) y2 M0
  unfold fb_X11_law_116
  refine zv_iload_n dX11_law_116 0 rfl ?_
  refine zv_bipush (z := 40) dX11_law_117 (by decide) ?_
  refine zv_icmp_ge (tgt := 226) dX11_law_119 (by decide) ?_ ?_
  · exact zv_sub (L' := [(0, rn w l0)]) [1] rfl (zv_exit (fun h => hX _ h))
  refine zv_rload_n dX11_law_122 1 rfl ?_
  refine zg_RX11_74 dX11_law_123 g0 ?_
  refine zv_iload_n dX11_law_126 0 rfl ?_
  refine zv_rload_n dX11_law_127 1 rfl ?_
  refine zg_RX11_74 dX11_law_128 g0 ?_
  refine zv_bipush (z := 40) dX11_law_131 (by decide) ?_
  refine zv_iload_n dX11_law_133 0 rfl ?_
  refine zv_iadd dX11_law_134 ?_
  refine zv_iald dX11_law_135 (zta_11_22 hT g0) (ztl_11_22 hT g0) (by decide) ?_
  refine zv_iast dX11_law_136 (zta_11_22 hT g0) (ztl_11_22 hT g0) (by decide) (fun M12 => ?_)
  refine zv_rload_n dX11_law_137 1 rfl ?_
  refine zg_RX11_77 dX11_law_138 g0 ?_
  refine zv_iload_n dX11_law_141 0 rfl ?_
  refine zv_rload_n dX11_law_142 1 rfl ?_
  refine zg_RX11_77 dX11_law_143 g0 ?_
  refine zv_bipush (z := 40) dX11_law_146 (by decide) ?_
  refine zv_iload_n dX11_law_148 0 rfl ?_
  refine zv_iadd dX11_law_149 ?_
  refine zv_iald dX11_law_150 (zta_11_23 hT g0) (ztl_11_23 hT g0) (by decide) ?_
  refine zv_iast dX11_law_151 (zta_11_23 hT g0) (ztl_11_23 hT g0) (by decide) (fun M13 => ?_)
  refine zv_rload_n dX11_law_152 1 rfl ?_
  refine zg_RX11_80 dX11_law_153 g0 ?_
  refine zv_iload_n dX11_law_156 0 rfl ?_
  refine zv_rload_n dX11_law_157 1 rfl ?_
  refine zg_RX11_80 dX11_law_158 g0 ?_
  refine zv_bipush (z := 40) dX11_law_161 (by decide) ?_
  refine zv_iload_n dX11_law_163 0 rfl ?_
  refine zv_iadd dX11_law_164 ?_
  refine zv_iald dX11_law_165 (zta_11_24 hT g0) (ztl_11_24 hT g0) (by decide) ?_
  refine zv_iast dX11_law_166 (zta_11_24 hT g0) (ztl_11_24 hT g0) (by decide) (fun M14 => ?_)
  refine zv_rload_n dX11_law_167 1 rfl ?_
  refine zg_RX11_83 dX11_law_168 g0 ?_
  refine zv_iload_n dX11_law_171 0 rfl ?_
  refine zv_rload_n dX11_law_172 1 rfl ?_
  refine zg_RX11_83 dX11_law_173 g0 ?_
  refine zv_bipush (z := 40) dX11_law_176 (by decide) ?_
  refine zv_iload_n dX11_law_178 0 rfl ?_
  refine zv_iadd dX11_law_179 ?_
  refine zv_iald dX11_law_180 (zta_11_25 hT g0) (ztl_11_25 hT g0) (by decide) ?_
  refine zv_iast dX11_law_181 (zta_11_25 hT g0) (ztl_11_25 hT g0) (by decide) (fun M15 => ?_)
  refine zv_rload_n dX11_law_182 1 rfl ?_
  refine zg_RX11_86 dX11_law_183 g0 ?_
  refine zv_iload_n dX11_law_186 0 rfl ?_
  refine zv_rload_n dX11_law_187 1 rfl ?_
  refine zg_RX11_86 dX11_law_188 g0 ?_
  refine zv_bipush (z := 40) dX11_law_191 (by decide) ?_
  refine zv_iload_n dX11_law_193 0 rfl ?_
  refine zv_iadd dX11_law_194 ?_
  refine zv_iald dX11_law_195 (zta_11_26 hT g0) (ztl_11_26 hT g0) (by decide) ?_
  refine zv_sipush (z := 1000) dX11_law_196 (by decide) ?_
  refine zv_isub dX11_law_199 ?_
  refine zv_iast dX11_law_200 (zta_11_26 hT g0) (ztl_11_26 hT g0) (by decide) (fun M16 => ?_)
  refine zv_rload_n dX11_law_201 1 rfl ?_
  refine zg_RX11_89 dX11_law_202 g0 ?_
  refine zv_iload_n dX11_law_205 0 rfl ?_
  refine zv_rload_n dX11_law_206 1 rfl ?_
  refine zg_RX11_89 dX11_law_207 g0 ?_
  refine zv_bipush (z := 40) dX11_law_210 (by decide) ?_
  refine zv_iload_n dX11_law_212 0 rfl ?_
  refine zv_iadd dX11_law_213 ?_
  refine zv_iald dX11_law_214 (zta_11_27 hT g0) (ztl_11_27 hT g0) (by decide) ?_
  refine zv_sipush (z := 1000) dX11_law_215 (by decide) ?_
  refine zv_isub dX11_law_218 ?_
  refine zv_iast dX11_law_219 (zta_11_27 hT g0) (ztl_11_27 hT g0) (by decide) (fun M17 => ?_)
  refine zv_iinc dX11_law_220 0 rfl (fun x18 => [(2, iv x18), (0, rn w l0)]) (by decide) (fun _ => rfl) (fun x18 => ?_)
  refine zv_goto (tgt := 116) dX11_law_223 (by decide) ?_
  exact zv_sub (L' := [(2, iv x18), (0, rn w l0)]) [0, 1] rfl (zv_exit (fun h => h))
theorem vl_X11_law_228 {κ : zC} {w : zW} (hw : zWk w)  (l0 : Nat) (g0 : ztag w.1 l0 = 12)  (E : (zM) → Prop) (hX : ∀  (M1 : zM), E M1 → zB cX11_law RX11 3 (some .int) κ w (0, 0, 6) 305 [(0, rn w l0)] [] M1)  (y2 : Int) (M0 : zM) :
    zV cX11_law RX11 3 (some .int) κ w (0, 0, 6) 228 [(2, iv y2), (0, rn w l0)] [] M0 (zw2 (fb_X11_law_228 w.1 l0) zfu y2 M0) E := by
  have hT := hw.1
  refine zv_loop2 (fun y2 M0 => [(2, iv y2), (0, rn w l0)]) (fun y2 M0 => M0) (fun y2 M0 => ?_) y2 M0
  unfold fb_X11_law_228
  refine zv_iload_n dX11_law_228 0 rfl ?_
  refine zv_sipush (z := 1000) dX11_law_229 (by decide) ?_
  refine zv_icmp_ge (tgt := 305) dX11_law_232 (by decide) ?_ ?_
  · exact zv_sub (L' := [(0, rn w l0)]) [1] rfl (zv_exit (fun h => hX _ h))
  refine zv_rload_n dX11_law_235 1 rfl ?_
  refine zg_RX11_92 dX11_law_236 g0 ?_
  refine zv_iload_n dX11_law_239 0 rfl ?_
  refine zv_rload_n dX11_law_240 1 rfl ?_
  refine zg_RX11_92 dX11_law_241 g0 ?_
  refine zv_sipush (z := 1000) dX11_law_244 (by decide) ?_
  refine zv_iload_n dX11_law_247 0 rfl ?_
  refine zv_iadd dX11_law_248 ?_
  refine zv_iald dX11_law_249 (zta_11_29 hT g0) (ztl_11_29 hT g0) (by decide) ?_
  refine zv_iast dX11_law_250 (zta_11_29 hT g0) (ztl_11_29 hT g0) (by decide) (fun M20 => ?_)
  refine zv_rload_n dX11_law_251 1 rfl ?_
  refine zg_RX11_95 dX11_law_252 g0 ?_
  refine zv_iload_n dX11_law_255 0 rfl ?_
  refine zv_rload_n dX11_law_256 1 rfl ?_
  refine zg_RX11_95 dX11_law_257 g0 ?_
  refine zv_sipush (z := 1000) dX11_law_260 (by decide) ?_
  refine zv_iload_n dX11_law_263 0 rfl ?_
  refine zv_iadd dX11_law_264 ?_
  refine zv_iald dX11_law_265 (zta_11_30 hT g0) (ztl_11_30 hT g0) (by decide) ?_
  refine zv_iast dX11_law_266 (zta_11_30 hT g0) (ztl_11_30 hT g0) (by decide) (fun M21 => ?_)
  refine zv_rload_n dX11_law_267 1 rfl ?_
  refine zg_RX11_98 dX11_law_268 g0 ?_
  refine zv_iload_n dX11_law_271 0 rfl ?_
  refine zv_rload_n dX11_law_272 1 rfl ?_
  refine zg_RX11_98 dX11_law_273 g0 ?_
  refine zv_sipush (z := 1000) dX11_law_276 (by decide) ?_
  refine zv_iload_n dX11_law_279 0 rfl ?_
  refine zv_iadd dX11_law_280 ?_
  refine zv_iald dX11_law_281 (zta_11_31 hT g0) (ztl_11_31 hT g0) (by decide) ?_
  refine zv_iast dX11_law_282 (zta_11_31 hT g0) (ztl_11_31 hT g0) (by decide) (fun M22 => ?_)
  refine zv_rload_n dX11_law_283 1 rfl ?_
  refine zg_RX11_101 dX11_law_284 g0 ?_
  refine zv_iload_n dX11_law_287 0 rfl ?_
  refine zv_rload_n dX11_law_288 1 rfl ?_
  refine zg_RX11_101 dX11_law_289 g0 ?_
  refine zv_sipush (z := 1000) dX11_law_292 (by decide) ?_
  refine zv_iload_n dX11_law_295 0 rfl ?_
  refine zv_iadd dX11_law_296 ?_
  refine zv_iald dX11_law_297 (zta_11_32 hT g0) (ztl_11_32 hT g0) (by decide) ?_
  refine zv_iast dX11_law_298 (zta_11_32 hT g0) (ztl_11_32 hT g0) (by decide) (fun M23 => ?_)
  refine zv_iinc dX11_law_299 0 rfl (fun x24 => [(2, iv x24), (0, rn w l0)]) (by decide) (fun _ => rfl) (fun x24 => ?_)
  refine zv_goto (tgt := 228) dX11_law_302 (by decide) ?_
  exact zv_sub (L' := [(2, iv x24), (0, rn w l0)]) [0, 1] rfl (zv_exit (fun h => h))
set_option maxRecDepth 20000 in
theorem c_X11_law (l : Launch) {w : zW} (hw : zWk w)  (p0 : Nat) (p1 : Int) (M0 : zM) (hp0 : ztag w.1 p0 = 12) : zCn l yX11_law cX11_law 3 (some .int) (6) 1 w [rn w p0, iv p1] M0 (f_X11_law w.1 p0 p1 M0) := by
  have hT := hw.1
  refine zCn_of (own := RX11) (by decide) rfl hw (Nat.le_of_ble_eq_true rfl) [(0, rn w p0), (1, iv p1)] rfl ?_
  intro κ hl
  subst hl
  unfold f_X11_law
  refine zv_iload_n dX11_law_0 1 rfl ?_
  refine zv_joinS1 (fun r => r) 12 (fun M28 => [(0, rn w p0)]) (fun M28 => []) (fun M28 => M28) ?_ (fun M28 => ?_)
  · refine zv_if_lt (tgt := 12) dX11_law_1 (by decide) ?_ ?_
    · exact zv_sub (L' := [(0, rn w p0)]) [0] rfl (zv_exit (fun h => h))
    refine zv_iload_n dX11_law_4 1 rfl ?_
    refine zv_rload_n dX11_law_5 0 rfl ?_
    refine zg_RX11_195 dX11_law_6 hp0 ?_
    refine zv_icmp_le (tgt := 25) dX11_law_9 (by decide) ?_ ?_
    · refine zv_rload_n dX11_law_25 0 rfl ?_
      refine zv_iload_n dX11_law_26 1 rfl ?_
      refine zp_RX11_201 dX11_law_27 hp0 (fun M1 => ?_)
      refine zv_rload_n dX11_law_30 0 rfl ?_
      refine zv_iconst (z := 0) dX11_law_31 ?_
      refine zp_RX11_195 dX11_law_32 hp0 (fun M2 => ?_)
      refine zv_rload_n dX11_law_35 0 rfl ?_
      refine zv_iconst (z := 0) dX11_law_36 ?_
      refine zp_RX11_198 dX11_law_37 hp0 (fun M3 => ?_)
      refine zv_rload_n dX11_law_40 0 rfl ?_
      refine zv_iconst (z := (-1)) dX11_law_41 ?_
      refine zp_RX11_108 dX11_law_42 hp0 (fun M4 => ?_)
      refine zv_rload_n dX11_law_45 0 rfl ?_
      refine zv_iconst (z := 0) dX11_law_46 ?_
      refine zp_RX11_226 dX11_law_47 hp0 (fun M5 => ?_)
      refine zv_rload_n dX11_law_50 0 rfl ?_
      refine zv_sipush (z := 1000) dX11_law_51 (by decide) ?_
      refine zp_RX11_274 dX11_law_54 hp0 (fun M6 => ?_)
      refine zv_rload_n dX11_law_57 0 rfl ?_
      refine zg_RX11_71 dX11_law_58 hp0 ?_
      refine zv_iconst (z := 1) dX11_law_61 ?_
      refine zv_iconst (z := 0) dX11_law_62 ?_
      refine zv_iast dX11_law_63 (zta_11_21 hT hp0) (ztl_11_21 hT hp0) (by decide) (fun M7 => ?_)
      refine zv_rload_n dX11_law_64 0 rfl ?_
      refine zv_vc (zv_callVv [] (c_X11_next κ.2.1 hw p0 M7 hp0) zmd_X11_next zwI_X11_next zwS_X11_next zwM_RX11_233 zcd_11 hp0 rfl (by decide) rfl (Nat.le_of_ble_eq_true rfl) dX11_law_65 (fun M8 _ _ => ?_))
      refine zv_join1 89 (fun M10 => [(0, rn w p0)]) (fun M10 => []) (fun M10 => M10) (zv_sub (L' := [(0, rn w p0)]) [0] rfl (vl_X11_law_68 hw p0 hp0 _ (fun _ h => h) M8)) (fun M10 => ?_)
      refine zv_rload_n dX11_law_89 0 rfl ?_
      refine zg_RX11_226 dX11_law_90 hp0 ?_
      refine zv_if_eq (tgt := 102) dX11_law_93 (by decide) ?_ ?_
      · refine zv_rload_n dX11_law_102 0 rfl ?_
        refine zg_RX11_71 dX11_law_103 hp0 ?_
        refine zv_iconst (z := 0) dX11_law_106 ?_
        refine zv_rload_n dX11_law_107 0 rfl ?_
        refine zg_RX11_71 dX11_law_108 hp0 ?_
        refine zv_iconst (z := 1) dX11_law_111 ?_
        refine zv_iald dX11_law_112 (zta_11_21 hT hp0) (ztl_11_21 hT hp0) (by decide) ?_
        refine zv_iast dX11_law_113 (zta_11_21 hT hp0) (ztl_11_21 hT hp0) (by decide) (fun M11 => ?_)
        refine zv_iconst (z := 0) dX11_law_114 ?_
        refine zv_istore_np (L' := [(2, iv 0), (0, rn w p0)]) (by rfl) dX11_law_115 (by decide) rfl ?_
        refine zv_join1 226 (fun M19 => [(0, rn w p0)]) (fun M19 => []) (fun M19 => M19) (zv_sub (L' := [(2, iv 0), (0, rn w p0)]) [0, 1] rfl (vl_X11_law_116 hw p0 hp0 _ (fun _ h => h) 0 M11)) (fun M19 => ?_)
        refine zv_iconst (z := 0) dX11_law_226 ?_
        refine zv_istore_np (L' := [(2, iv 0), (0, rn w p0)]) (by rfl) dX11_law_227 (by decide) rfl ?_
        refine zv_join1 305 (fun M25 => [(0, rn w p0)]) (fun M25 => []) (fun M25 => M25) (zv_sub (L' := [(2, iv 0), (0, rn w p0)]) [0, 1] rfl (vl_X11_law_228 hw p0 hp0 _ (fun _ h => h) 0 M19)) (fun M25 => ?_)
        refine zv_rload_n dX11_law_305 0 rfl ?_
        refine zg_RX11_71 dX11_law_306 hp0 ?_
        refine zv_iconst (z := 0) dX11_law_309 ?_
        refine zv_iald dX11_law_310 (zta_11_21 hT hp0) (ztl_11_21 hT hp0) (by decide) ?_
        exact zv_ret (fun h => h) (zv_iret dX11_law_311)
      refine zv_rload_n dX11_law_96 0 rfl ?_
      refine zv_iconst (z := 2) dX11_law_97 ?_
      refine (zv_callVi [iv 2] (c_X11_refuses κ.2.1 hw p0 2 M10 hp0) zmd_X11_refuses zwI_X11_refuses zwS_X11_refuses zwM_RX11_175 zcd_11 hp0 rfl (by decide) rfl (Nat.le_of_ble_eq_true rfl) dX11_law_98 (fun M27 v26 _ => ?_))
      exact zv_ret (fun h => h) (zv_iret dX11_law_101)
    exact zv_sub (L' := [(0, rn w p0)]) [0] rfl (zv_exit (fun h => h))
  refine zv_rload_n dX11_law_12 0 rfl ?_
  refine zg_RX11_7 dX11_law_13 hp0 ?_
  refine zv_iconst (z := 0) dX11_law_16 ?_
  refine zv_dup2 dX11_law_17 rfl rfl ?_
  refine zv_iald dX11_law_18 (zta_11_0 hT hp0) (ztl_11_0 hT hp0) (by decide) ?_
  refine zv_iconst (z := 1) dX11_law_19 ?_
  refine zv_iadd dX11_law_20 ?_
  refine zv_iast dX11_law_21 (zta_11_0 hT hp0) (ztl_11_0 hT hp0) (by decide) (fun M29 => ?_)
  refine zv_bipush (z := (-2)) dX11_law_22 (by decide) ?_
  exact zv_ret (fun h => h) (zv_iret dX11_law_24)
def f_X11_quarterOf (k : zK)  (p0 : Int) (M0 : zM) : Option Int :=
  zgd (0 ≤ p0 ∧ p0 ≤ 2147483647) (zb1 (zbr (p0 % 16) 7 (p0 % 16 ≤ 7) (some (0)) (some (1))) (fun x1 => zgd (0 ≤ p0 ∧ p0 ≤ 2147483647) (zbr (p0 / 16) 7 (p0 / 16 ≤ 7) (some (x1 + 0)) (some (x1 + 2)))))
theorem c_X11_quarterOf (l : Launch) {w : zW} (hw : zWk w)  (p0 : Int) (M0 : zM)  : zCn l yX11_quarterOf cX11_quarterOf 1 (some .int) (0) 1 w [iv p0] M0 ((f_X11_quarterOf w.1 p0 M0).map fun v => (M0, v)) := by
  have hT := hw.1
  refine zCn_ofP (own := RX11) (by decide) rfl hw (Nat.le_of_ble_eq_true rfl) [(0, iv p0)] rfl ?_
  intro κ hl
  subst hl
  unfold f_X11_quarterOf
  refine zv_iload_n dX11_quarterOf_0 0 rfl ?_
  refine zv_bipush (z := 16) dX11_quarterOf_1 (by decide) ?_
  refine zv_iremc (by decide) dX11_quarterOf_3 ?_
  refine zv_bipush (z := 7) dX11_quarterOf_4 (by decide) ?_
  refine zv_join1 14 (fun x1 => [(0, iv p0)]) (fun x1 => [iv x1]) (fun x1 => M0) ?_ (fun x1 => ?_)
  · refine zv_icmp_le (tgt := 13) dX11_quarterOf_6 (by decide) ?_ ?_
    · refine zv_iconst (z := 0) dX11_quarterOf_13 ?_
      exact zv_sub (L' := [(0, iv p0)]) [0] rfl (zv_exit (fun h => h))
    refine zv_iconst (z := 1) dX11_quarterOf_9 ?_
    refine zv_goto (tgt := 14) dX11_quarterOf_10 (by decide) ?_
    exact zv_sub (L' := [(0, iv p0)]) [0] rfl (zv_exit (fun h => h))
  refine zv_iload_n dX11_quarterOf_14 0 rfl ?_
  refine zv_bipush (z := 16) dX11_quarterOf_15 (by decide) ?_
  refine zv_idivc (by decide) dX11_quarterOf_17 ?_
  refine zv_bipush (z := 7) dX11_quarterOf_18 (by decide) ?_
  refine zv_icmp_le (tgt := 27) dX11_quarterOf_20 (by decide) ?_ ?_
  · refine zv_iconst (z := 0) dX11_quarterOf_27 ?_
    refine zv_iadd dX11_quarterOf_28 ?_
    exact zv_ret (fun h => h) (zv_iret dX11_quarterOf_29)
  refine zv_iconst (z := 2) dX11_quarterOf_23 ?_
  refine zv_goto (tgt := 28) dX11_quarterOf_24 (by decide) ?_
  refine zv_iadd dX11_quarterOf_28 ?_
  exact zv_ret (fun h => h) (zv_iret dX11_quarterOf_29)
def fb_X11_leanOf_5 (k : zK)  (l0 : Nat) (l1 : Int) (l2 : Int) (y3 : Int) (y4 : Int) (M0 : zM) : Option ((Int × Int × zM) ⊕ (Int × zM)) :=
  zbr y4 256 (256 ≤ y4) (some (.inr (y3, M0))) (zsp1 (zbr l1 0 (l1 < 0) (some (.inl y4)) (zb1 (f_X11_quarterOf k y4 M0) (fun v1 => zbr v1 l1 (¬ v1 = l1) (zlt (y4 + 1) (fun x3 => some (.inr (.inl (y3, x3, M0))))) (some (.inl y4))))) (fun r => some r) (fun x4 => zbd (f_X11_by k l0 3 x4 l2 M0) (fun M6 v5 => zlt (y3 + v5) (fun x7 => zlt (x4 + 1) (fun x8 => some (.inl (x7, x8, M6)))))))
def f_X11_leanOf (k : zK)  (p0 : Nat) (p1 : Int) (p2 : Int) (M0 : zM) : Option (zM × Int) :=
  zb2 (zw3 (fb_X11_leanOf_5 k p0 p1 p2) zfu 0 0 M0) (fun x9 M10 => some (M10, x9))
theorem vl_X11_leanOf_5 {κ : zC} {w : zW} (hw : zWk w)  (l0 : Nat) (l1 : Int) (l2 : Int) (g0 : ztag w.1 l0 = 12)  (E : (Int × zM) → Prop) (hX : ∀ (u3 : Int) (M1 : zM), E (u3, M1) → zB cX11_leanOf RX11 5 (some .int) κ w (0, 0, 3) 43 [(3, iv u3)] [] M1)  (y3 : Int) (y4 : Int) (M0 : zM) :
    zV cX11_leanOf RX11 5 (some .int) κ w (0, 0, 3) 5 [(3, iv y3), (4, iv y4), (0, rn w l0), (1, iv l1), (2, iv l2)] [] M0 (zw3 (fb_X11_leanOf_5 w.1 l0 l1 l2) zfu y3 y4 M0) E := by
  have hT := hw.1
  refine zv_loop3 (fun y3 y4 M0 => [(3, iv y3), (4, iv y4), (0, rn w l0), (1, iv l1), (2, iv l2)]) (fun y3 y4 M0 => M0) (fun y3 y4 M0 => ?_) y3 y4 M0
  unfold fb_X11_leanOf_5
  refine zv_iload dX11_leanOf_5 1 rfl ?_
  refine zv_sipush (z := 256) dX11_leanOf_7 (by decide) ?_
  refine zv_icmp_ge (tgt := 43) dX11_leanOf_10 (by decide) ?_ ?_
  · exact zv_sub (L' := [(3, iv y3)]) [0] rfl (zv_exit (fun h => hX _ _ h))
  refine zv_iload_n dX11_leanOf_13 3 rfl ?_
  refine zv_joinS1 (fun r => r) 26 (fun x4 => [(4, iv x4), (3, iv y3), (0, rn w l0), (1, iv l1), (2, iv l2)]) (fun x4 => []) (fun x4 => M0) ?_ (fun x4 => ?_)
  · refine zv_if_lt (tgt := 26) dX11_leanOf_14 (by decide) ?_ ?_
    · exact zv_sub (L' := [(4, iv y4), (3, iv y3), (0, rn w l0), (1, iv l1), (2, iv l2)]) [1, 0, 2, 3, 4] rfl (zv_exit (fun h => h))
    refine zv_iload dX11_leanOf_17 1 rfl ?_
    refine zv_pc (zv_callSi [iv y4] (c_X11_quarterOf κ.2.1 hw y4 M0 ) zmd_X11_quarterOf zwT_X11_quarterOf zwM_RX11_471 rfl (by decide) rfl (Nat.le_of_ble_eq_true rfl) dX11_leanOf_19 (fun mh2 v1 h2 => ?_))
    obtain rfl := zpuE h2
    refine zv_iload_n dX11_leanOf_22 3 rfl ?_
    refine zv_icmp_ne (tgt := 37) dX11_leanOf_23 (by decide) ?_ ?_
    · refine zv_iinc dX11_leanOf_37 1 rfl (fun x3 => [(4, iv x3), (3, iv y3), (0, rn w l0), (1, iv l1), (2, iv l2)]) (by decide) (fun _ => rfl) (fun x3 => ?_)
      refine zv_goto (tgt := 5) dX11_leanOf_40 (by decide) ?_
      exact zv_sub (L' := [(3, iv y3), (4, iv x3), (0, rn w l0), (1, iv l1), (2, iv l2)]) [1, 0, 2, 3, 4] rfl (zv_exit (fun h => h))
    exact zv_sub (L' := [(4, iv y4), (3, iv y3), (0, rn w l0), (1, iv l1), (2, iv l2)]) [1, 0, 2, 3, 4] rfl (zv_exit (fun h => h))
  refine zv_iload_n dX11_leanOf_26 1 rfl ?_
  refine zv_rload_n dX11_leanOf_27 2 rfl ?_
  refine zv_iconst (z := 3) dX11_leanOf_28 ?_
  refine zv_iload dX11_leanOf_29 0 rfl ?_
  refine zv_iload_n dX11_leanOf_31 4 rfl ?_
  refine (zv_callVi [iv 3, iv x4, iv l2] (c_X11_by κ.2.1 hw l0 3 x4 l2 M0 g0) zmd_X11_by zwI_X11_by zwS_X11_by zwM_RX11_393 zcd_11 g0 rfl (by decide) rfl (Nat.le_of_ble_eq_true rfl) dX11_leanOf_32 (fun M6 v5 _ => ?_))
  refine zv_iadd dX11_leanOf_35 ?_
  refine zv_istore_n (i := 3) (by rfl) dX11_leanOf_36 (fun x7 => [(3, iv x7), (4, iv x4), (0, rn w l0), (1, iv l1), (2, iv l2)]) (by decide) (fun _ => rfl) (fun x7 => ?_)
  refine zv_iinc dX11_leanOf_37 1 rfl (fun x8 => [(4, iv x8), (3, iv x7), (0, rn w l0), (1, iv l1), (2, iv l2)]) (by decide) (fun _ => rfl) (fun x8 => ?_)
  refine zv_goto (tgt := 5) dX11_leanOf_40 (by decide) ?_
  exact zv_sub (L' := [(3, iv x7), (4, iv x8), (0, rn w l0), (1, iv l1), (2, iv l2)]) [1, 0, 2, 3, 4] rfl (zv_exit (fun h => h))
theorem c_X11_leanOf (l : Launch) {w : zW} (hw : zWk w)  (p0 : Nat) (p1 : Int) (p2 : Int) (M0 : zM) (hp0 : ztag w.1 p0 = 12) : zCn l yX11_leanOf cX11_leanOf 5 (some .int) (3) 1 w [rn w p0, iv p1, iv p2] M0 (f_X11_leanOf w.1 p0 p1 p2 M0) := by
  have hT := hw.1
  refine zCn_of (own := RX11) (by decide) rfl hw (Nat.le_of_ble_eq_true rfl) [(0, rn w p0), (1, iv p1), (2, iv p2)] rfl ?_
  intro κ hl
  subst hl
  unfold f_X11_leanOf
  refine zv_iconst (z := 0) dX11_leanOf_0 ?_
  refine zv_istore_np (L' := [(3, iv 0), (0, rn w p0), (1, iv p1), (2, iv p2)]) (by rfl) dX11_leanOf_1 (by decide) rfl ?_
  refine zv_iconst (z := 0) dX11_leanOf_2 ?_
  refine zv_istore_p (L' := [(4, iv 0), (3, iv 0), (0, rn w p0), (1, iv p1), (2, iv p2)]) dX11_leanOf_3 (by decide) rfl ?_
  refine zv_join2 43 (fun x9 M10 => [(3, iv x9)]) (fun x9 M10 => []) (fun x9 M10 => M10) (zv_sub (L' := [(3, iv 0), (4, iv 0), (0, rn w p0), (1, iv p1), (2, iv p2)]) [1, 0, 2, 3, 4] rfl (vl_X11_leanOf_5 hw p0 p1 p2 hp0 _ (fun _ _ h => h) 0 0 M0)) (fun x9 M10 => ?_)
  refine zv_iload_n dX11_leanOf_43 0 rfl ?_
  exact zv_ret (fun h => h) (zv_iret dX11_leanOf_44)
def f_X11_lean (k : zK)  (p0 : Nat) (p1 : Int) (p2 : Int) (M0 : zM) : Option (zM × Int) :=
  zb1 (f_X11_within k p1 0 3 M0) (fun v1 => zbr v1 0 (v1 = 0) (some (M0, (-1))) (zb1 (f_X11_isAge k p2 M0) (fun v3 => zbr v3 0 (¬ v3 = 0) (zb1 (f_X11_finds k p0 p2 M0) (fun M5 => zbd (f_X11_leanOf k p0 p1 p2 M5) (fun M7 v6 => some (M7, v6)))) (some (M0, (-1))))))
theorem c_X11_lean (l : Launch) {w : zW} (hw : zWk w)  (p0 : Nat) (p1 : Int) (p2 : Int) (M0 : zM) (hp0 : ztag w.1 p0 = 12) : zCn l yX11_lean cX11_lean 3 (some .int) (4) 1 w [rn w p0, iv p1, iv p2] M0 (f_X11_lean w.1 p0 p1 p2 M0) := by
  have hT := hw.1
  refine zCn_of (own := RX11) (by decide) rfl hw (Nat.le_of_ble_eq_true rfl) [(0, rn w p0), (1, iv p1), (2, iv p2)] rfl ?_
  intro κ hl
  subst hl
  unfold f_X11_lean
  refine zv_iload_n dX11_lean_0 1 rfl ?_
  refine zv_iconst (z := 0) dX11_lean_1 ?_
  refine zv_iconst (z := 3) dX11_lean_2 ?_
  refine zv_pc (zv_callSi [iv p1, iv 0, iv 3] (c_X11_within κ.2.1 hw p1 0 3 M0 ) zmd_X11_within zwT_X11_within zwM_RX11_183 rfl (by decide) rfl (Nat.le_of_ble_eq_true rfl) dX11_lean_3 (fun mh2 v1 h2 => ?_))
  obtain rfl := zpuE h2
  refine zv_if_eq (tgt := 16) dX11_lean_6 (by decide) ?_ ?_
  · refine zv_iconst (z := (-1)) dX11_lean_16 ?_
    exact zv_ret (fun h => h) (zv_iret dX11_lean_17)
  refine zv_iload_n dX11_lean_9 2 rfl ?_
  refine zv_pc (zv_callSi [iv p2] (c_X11_isAge κ.2.1 hw p2 M0 ) zmd_X11_isAge zwT_X11_isAge zwM_RX11_335 rfl (by decide) rfl (Nat.le_of_ble_eq_true rfl) dX11_lean_10 (fun mh4 v3 h4 => ?_))
  obtain rfl := zpuE h4
  refine zv_if_ne (tgt := 18) dX11_lean_13 (by decide) ?_ ?_
  · refine zv_rload_n dX11_lean_18 0 rfl ?_
    refine zv_iload_n dX11_lean_19 2 rfl ?_
    refine zv_vc (zv_callVv [iv p2] (c_X11_finds κ.2.1 hw p0 p2 M0 hp0) zmd_X11_finds zwI_X11_finds zwS_X11_finds zwM_RX11_385 zcd_11 hp0 rfl (by decide) rfl (Nat.le_of_ble_eq_true rfl) dX11_lean_20 (fun M5 _ _ => ?_))
    refine zv_rload_n dX11_lean_23 0 rfl ?_
    refine zv_iload_n dX11_lean_24 1 rfl ?_
    refine zv_iload_n dX11_lean_25 2 rfl ?_
    refine (zv_callVi [iv p1, iv p2] (c_X11_leanOf κ.2.1 hw p0 p1 p2 M5 hp0) zmd_X11_leanOf zwI_X11_leanOf zwS_X11_leanOf zwM_RX11_474 zcd_11 hp0 rfl (by decide) rfl (Nat.le_of_ble_eq_true rfl) dX11_lean_26 (fun M7 v6 _ => ?_))
    exact zv_ret (fun h => h) (zv_iret dX11_lean_29)
  refine zv_iconst (z := (-1)) dX11_lean_16 ?_
  exact zv_ret (fun h => h) (zv_iret dX11_lean_17)
def f_X11_learnt (k : zK)  (p0 : Nat) (p1 : Int) (p2 : Int) (M0 : zM) : Option (zM × Int) :=
  zb1 (f_X11_within k p1 0 15 M0) (fun v1 => zbr v1 0 (v1 = 0) (some (M0, (-1))) (zb1 (f_X11_within k p2 0 1 M0) (fun v3 => zbr v3 0 (¬ v3 = 0) (zb1 (f_X11_learn k p0 p1 (-1) M0) (fun M5 => zbr p2 0 (¬ p2 = 0) (some (M5, M5 p0 62)) (some (M5, M5 p0 61)))) (some (M0, (-1))))))
theorem c_X11_learnt (l : Launch) {w : zW} (hw : zWk w)  (p0 : Nat) (p1 : Int) (p2 : Int) (M0 : zM) (hp0 : ztag w.1 p0 = 12) : zCn l yX11_learnt cX11_learnt 3 (some .int) (1) 1 w [rn w p0, iv p1, iv p2] M0 (f_X11_learnt w.1 p0 p1 p2 M0) := by
  have hT := hw.1
  refine zCn_of (own := RX11) (by decide) rfl hw (Nat.le_of_ble_eq_true rfl) [(0, rn w p0), (1, iv p1), (2, iv p2)] rfl ?_
  intro κ hl
  subst hl
  unfold f_X11_learnt
  refine zv_iload_n dX11_learnt_0 1 rfl ?_
  refine zv_iconst (z := 0) dX11_learnt_1 ?_
  refine zv_bipush (z := 15) dX11_learnt_2 (by decide) ?_
  refine zv_pc (zv_callSi [iv p1, iv 0, iv 15] (c_X11_within κ.2.1 hw p1 0 15 M0 ) zmd_X11_within zwT_X11_within zwM_RX11_183 rfl (by decide) rfl (Nat.le_of_ble_eq_true rfl) dX11_learnt_4 (fun mh2 v1 h2 => ?_))
  obtain rfl := zpuE h2
  refine zv_if_eq (tgt := 19) dX11_learnt_7 (by decide) ?_ ?_
  · refine zv_iconst (z := (-1)) dX11_learnt_19 ?_
    exact zv_ret (fun h => h) (zv_iret dX11_learnt_20)
  refine zv_iload_n dX11_learnt_10 2 rfl ?_
  refine zv_iconst (z := 0) dX11_learnt_11 ?_
  refine zv_iconst (z := 1) dX11_learnt_12 ?_
  refine zv_pc (zv_callSi [iv p2, iv 0, iv 1] (c_X11_within κ.2.1 hw p2 0 1 M0 ) zmd_X11_within zwT_X11_within zwM_RX11_183 rfl (by decide) rfl (Nat.le_of_ble_eq_true rfl) dX11_learnt_13 (fun mh4 v3 h4 => ?_))
  obtain rfl := zpuE h4
  refine zv_if_ne (tgt := 21) dX11_learnt_16 (by decide) ?_ ?_
  · refine zv_rload_n dX11_learnt_21 0 rfl ?_
    refine zv_iload_n dX11_learnt_22 1 rfl ?_
    refine zv_iconst (z := (-1)) dX11_learnt_23 ?_
    refine zv_vc (zv_callVv [iv p1, iv (-1)] (c_X11_learn κ.2.1 hw p0 p1 (-1) M0 hp0) zmd_X11_learn zwI_X11_learn zwS_X11_learn zwM_RX11_425 zcd_11 hp0 rfl (by decide) rfl (Nat.le_of_ble_eq_true rfl) dX11_learnt_24 (fun M5 _ _ => ?_))
    refine zv_iload_n dX11_learnt_27 2 rfl ?_
    refine zv_if_ne (tgt := 38) dX11_learnt_28 (by decide) ?_ ?_
    · refine zv_rload_n dX11_learnt_38 0 rfl ?_
      refine zg_RX11_422 dX11_learnt_39 hp0 ?_
      exact zv_ret (fun h => h) (zv_iret dX11_learnt_42)
    refine zv_rload_n dX11_learnt_31 0 rfl ?_
    refine zg_RX11_419 dX11_learnt_32 hp0 ?_
    refine zv_goto (tgt := 42) dX11_learnt_35 (by decide) ?_
    exact zv_ret (fun h => h) (zv_iret dX11_learnt_42)
  refine zv_iconst (z := (-1)) dX11_learnt_19 ?_
  exact zv_ret (fun h => h) (zv_iret dX11_learnt_20)
def fb_X11_leaves_7 (k : zK)  (l0 : Nat) (l1 : Int) (M0 : zM) (y2 : Int) (y4 : Int) : Option ((Int × Int) ⊕ (Int)) :=
  zgd (0 ≤ (0 : Int) ∧ (0 : Int) < 4) (zbr y4 (M0 (zfr k l0 3) (Int.toNat 0)) (M0 (zfr k l0 3) (Int.toNat 0) ≤ y4) (some (.inr y2)) (zgd (0 ≤ y4 ∧ y4 < 10) (zgd (zr (M0 (zfr k l0 66) y4.toNat)) (zgd (0 ≤ y4 ∧ y4 < 10) (zgd (zr (M0 (zfr k l0 66) y4.toNat)) (zgd (zr l1) (zgd (0 ≤ y4 ∧ y4 < 10) (zb1 (f_X11_power k (10 - l1) (M0 (zfr k l0 67) y4.toNat) M0) (fun v1 => zgd (0 ≤ y4 ∧ y4 < 10) (zb1 (f_X11_power k 10 (M0 (zfr k l0 67) y4.toNat) M0) (fun v3 => zgd ((0 ≤ (M0 (zfr k l0 66) y4.toNat) * v1 ∧ (M0 (zfr k l0 66) y4.toNat) * v1 ≤ 9223372036854775807) ∧ 0 < v3 ∧ v3 ≤ 9223372036854775807) (zgd (0 ≤ y2 * ((1000000 - (M0 (zfr k l0 66) y4.toNat)) + (((M0 (zfr k l0 66) y4.toNat) * v1) / v3)) ∧ y2 * ((1000000 - (M0 (zfr k l0 66) y4.toNat)) + (((M0 (zfr k l0 66) y4.toNat) * v1) / v3)) ≤ 9223372036854775807) (zlt ((y2 * ((1000000 - (M0 (zfr k l0 66) y4.toNat)) + (((M0 (zfr k l0 66) y4.toNat) * v1) / v3))) / 1000000) (fun x5 => zlt (y4 + 1) (fun x6 => some (.inl (x5, x6)))))))))))))))))
def f_X11_leaves (k : zK)  (p0 : Nat) (p1 : Int) (M0 : zM) : Option Int :=
  zb1 (zw2 (fb_X11_leaves_7 k p0 p1 M0) zfu 1000000 0) (fun x7 => some x7)
theorem vl_X11_leaves_7 {κ : zC} {w : zW} (hw : zWk w)  (l0 : Nat) (l1 : Int) (g0 : ztag w.1 l0 = 12) (M0 : zM) (E : (Int) → Prop) (hX : ∀ (u2 : Int), E u2 → zB cX11_leaves RX11 5 (some .long) κ w (0, 0, 1) 83 [(2, jv u2)] [] M0)  (y2 : Int) (y4 : Int) :
    zV cX11_leaves RX11 5 (some .long) κ w (0, 0, 1) 7 [(2, jv y2), (4, iv y4), (0, rn w l0), (1, iv l1)] [] M0 (zw2 (fb_X11_leaves_7 w.1 l0 l1 M0) zfu y2 y4) E := by
  have hT := hw.1
  refine zv_loop2 (fun y2 y4 => [(2, jv y2), (4, iv y4), (0, rn w l0), (1, iv l1)]) (fun y2 y4 => M0) (fun y2 y4 => ?_) y2 y4
  unfold fb_X11_leaves_7
  refine zv_iload dX11_leaves_7 1 rfl ?_
  refine zv_rload_n dX11_leaves_9 2 rfl ?_
  refine zg_RX11_19 dX11_leaves_10 g0 ?_
  refine zv_iconst (z := 0) dX11_leaves_13 ?_
  refine zv_iald dX11_leaves_14 (zta_11_3 hT g0) (ztl_11_3 hT g0) (by decide) ?_
  refine zv_icmp_ge (tgt := 83) dX11_leaves_15 (by decide) ?_ ?_
  · exact zv_sub (L' := [(2, jv y2)]) [0] rfl (zv_exit (fun h => hX _ h))
  refine zv_lload_n dX11_leaves_18 0 rfl ?_
  refine zv_ldc2 (z := 1000000) dX11_leaves_19 zwK_RX11_462 (by decide) ?_
  refine zv_rload_n dX11_leaves_22 2 rfl ?_
  refine zg_RX11_154 dX11_leaves_23 g0 ?_
  refine zv_iload dX11_leaves_26 1 rfl ?_
  refine zv_iald dX11_leaves_28 (zta_11_66 hT g0) (ztl_11_66 hT g0) (by decide) ?_
  refine zv_i2l dX11_leaves_29 ?_
  refine zv_lsub dX11_leaves_30 ?_
  refine zv_rload_n dX11_leaves_31 2 rfl ?_
  refine zg_RX11_154 dX11_leaves_32 g0 ?_
  refine zv_iload dX11_leaves_35 1 rfl ?_
  refine zv_iald dX11_leaves_37 (zta_11_66 hT g0) (ztl_11_66 hT g0) (by decide) ?_
  refine zv_i2l dX11_leaves_38 ?_
  refine zv_ldc2 (z := 10) dX11_leaves_39 zwK_RX11_441 (by decide) ?_
  refine zv_iload_n dX11_leaves_42 3 rfl ?_
  refine zv_i2l dX11_leaves_43 ?_
  refine zv_lsub dX11_leaves_44 ?_
  refine zv_rload_n dX11_leaves_45 2 rfl ?_
  refine zg_RX11_157 dX11_leaves_46 g0 ?_
  refine zv_iload dX11_leaves_49 1 rfl ?_
  refine zv_iald dX11_leaves_51 (zta_11_67 hT g0) (ztl_11_67 hT g0) (by decide) ?_
  refine zv_pc (zv_callSl [jv (10 - l1), iv (M0 (zfr w.1 l0 67) y4.toNat)] (c_X11_power κ.2.1 hw (10 - l1) (M0 (zfr w.1 l0 67) y4.toNat) M0 ) zmd_X11_power zwT_X11_power zwM_RX11_437 rfl (by decide) rfl (Nat.le_of_ble_eq_true rfl) dX11_leaves_52 (fun mh2 v1 h2 => ?_))
  obtain rfl := zpuE h2
  refine zv_lmul dX11_leaves_55 ?_
  refine zv_ldc2 (z := 10) dX11_leaves_56 zwK_RX11_441 (by decide) ?_
  refine zv_rload_n dX11_leaves_59 2 rfl ?_
  refine zg_RX11_157 dX11_leaves_60 g0 ?_
  refine zv_iload dX11_leaves_63 1 rfl ?_
  refine zv_iald dX11_leaves_65 (zta_11_67 hT g0) (ztl_11_67 hT g0) (by decide) ?_
  refine zv_pc (zv_callSl [jv 10, iv (M0 (zfr w.1 l0 67) y4.toNat)] (c_X11_power κ.2.1 hw 10 (M0 (zfr w.1 l0 67) y4.toNat) M0 ) zmd_X11_power zwT_X11_power zwM_RX11_437 rfl (by decide) rfl (Nat.le_of_ble_eq_true rfl) dX11_leaves_66 (fun mh4 v3 h4 => ?_))
  obtain rfl := zpuE h4
  refine zv_ldiv dX11_leaves_69 ?_
  refine zv_ladd dX11_leaves_70 ?_
  refine zv_lmul dX11_leaves_71 ?_
  refine zv_ldc2 (z := 1000000) dX11_leaves_72 zwK_RX11_462 (by decide) ?_
  refine zv_ldivc (by decide) dX11_leaves_75 ?_
  refine zv_lstore_n (i := 2) (by rfl) dX11_leaves_76 (fun x5 => [(2, jv x5), (4, iv y4), (0, rn w l0), (1, iv l1)]) (by decide) (fun _ => rfl) (fun x5 => ?_)
  refine zv_iinc dX11_leaves_77 1 rfl (fun x6 => [(4, iv x6), (2, jv x5), (0, rn w l0), (1, iv l1)]) (by decide) (fun _ => rfl) (fun x6 => ?_)
  refine zv_goto (tgt := 7) dX11_leaves_80 (by decide) ?_
  exact zv_sub (L' := [(2, jv x5), (4, iv x6), (0, rn w l0), (1, iv l1)]) [1, 0, 2, 3] rfl (zv_exit (fun h => h))
theorem c_X11_leaves (l : Launch) {w : zW} (hw : zWk w)  (p0 : Nat) (p1 : Int) (M0 : zM) (hp0 : ztag w.1 p0 = 12) : zCn l yX11_leaves cX11_leaves 5 (some .long) (1) 2 w [rn w p0, iv p1] M0 ((f_X11_leaves w.1 p0 p1 M0).map fun v => (M0, v)) := by
  have hT := hw.1
  refine zCn_ofP (own := RX11) (by decide) rfl hw (Nat.le_of_ble_eq_true rfl) [(0, rn w p0), (1, iv p1)] rfl ?_
  intro κ hl
  subst hl
  unfold f_X11_leaves
  refine zv_ldc2 (z := 1000000) dX11_leaves_0 zwK_RX11_462 (by decide) ?_
  refine zv_lstore_np (L' := [(2, jv 1000000), (0, rn w p0), (1, iv p1)]) (by rfl) dX11_leaves_3 (by decide) rfl ?_
  refine zv_iconst (z := 0) dX11_leaves_4 ?_
  refine zv_istore_p (L' := [(4, iv 0), (2, jv 1000000), (0, rn w p0), (1, iv p1)]) dX11_leaves_5 (by decide) rfl ?_
  refine zv_join1 83 (fun x7 => [(2, jv x7)]) (fun x7 => []) (fun x7 => M0) (zv_sub (L' := [(2, jv 1000000), (4, iv 0), (0, rn w p0), (1, iv p1)]) [1, 0, 2, 3] rfl (vl_X11_leaves_7 hw p0 p1 hp0 M0 _ (fun _ h => h) 1000000 0)) (fun x7 => ?_)
  refine zv_lload_n dX11_leaves_83 0 rfl ?_
  exact zv_ret (fun h => h) (zv_lret dX11_leaves_84)
def f_X11_left (k : zK)  (p0 : Nat) (p1 : Int) (p2 : Int) (p3 : Int) (M0 : zM) : Option (zM × Int) :=
  zb1 (f_X11_isCell k p1 M0) (fun v1 => zbr v1 0 (v1 = 0) (some (M0, (-1))) (zb1 (f_X11_isAge k p2 M0) (fun v3 => zbr v3 0 (v3 = 0) (some (M0, (-1))) (zb1 (f_X11_within k p3 0 1 M0) (fun v5 => zbr v5 0 (¬ v5 = 0) (zb1 (f_X11_finds k p0 p2 M0) (fun M7 => zb1 (f_X11_findLeft k p0 p1 M7) (fun M8 => zb1 (f_X11_lowest k (M8 p0 63) (M8 p0 64) p3 M8) (fun v9 => some (M8, v9))))) (some (M0, (-1))))))))
theorem c_X11_left (l : Launch) {w : zW} (hw : zWk w)  (p0 : Nat) (p1 : Int) (p2 : Int) (p3 : Int) (M0 : zM) (hp0 : ztag w.1 p0 = 12) : zCn l yX11_left cX11_left 4 (some .long) (4) 2 w [rn w p0, iv p1, iv p2, iv p3] M0 (f_X11_left w.1 p0 p1 p2 p3 M0) := by
  have hT := hw.1
  refine zCn_of (own := RX11) (by decide) rfl hw (Nat.le_of_ble_eq_true rfl) [(0, rn w p0), (1, iv p1), (2, iv p2), (3, iv p3)] rfl ?_
  intro κ hl
  subst hl
  unfold f_X11_left
  refine zv_iload_n dX11_left_0 1 rfl ?_
  refine zv_pc (zv_callSi [iv p1] (c_X11_isCell κ.2.1 hw p1 M0 ) zmd_X11_isCell zwT_X11_isCell zwM_RX11_191 rfl (by decide) rfl (Nat.le_of_ble_eq_true rfl) dX11_left_1 (fun mh2 v1 h2 => ?_))
  obtain rfl := zpuE h2
  refine zv_if_eq (tgt := 23) dX11_left_4 (by decide) ?_ ?_
  · refine zv_ldc2 (z := (-1)) dX11_left_23 zwK_RX11_211 (by decide) ?_
    exact zv_ret (fun h => h) (zv_lret dX11_left_26)
  refine zv_iload_n dX11_left_7 2 rfl ?_
  refine zv_pc (zv_callSi [iv p2] (c_X11_isAge κ.2.1 hw p2 M0 ) zmd_X11_isAge zwT_X11_isAge zwM_RX11_335 rfl (by decide) rfl (Nat.le_of_ble_eq_true rfl) dX11_left_8 (fun mh4 v3 h4 => ?_))
  obtain rfl := zpuE h4
  refine zv_if_eq (tgt := 23) dX11_left_11 (by decide) ?_ ?_
  · refine zv_ldc2 (z := (-1)) dX11_left_23 zwK_RX11_211 (by decide) ?_
    exact zv_ret (fun h => h) (zv_lret dX11_left_26)
  refine zv_iload_n dX11_left_14 3 rfl ?_
  refine zv_iconst (z := 0) dX11_left_15 ?_
  refine zv_iconst (z := 1) dX11_left_16 ?_
  refine zv_pc (zv_callSi [iv p3, iv 0, iv 1] (c_X11_within κ.2.1 hw p3 0 1 M0 ) zmd_X11_within zwT_X11_within zwM_RX11_183 rfl (by decide) rfl (Nat.le_of_ble_eq_true rfl) dX11_left_17 (fun mh6 v5 h6 => ?_))
  obtain rfl := zpuE h6
  refine zv_if_ne (tgt := 27) dX11_left_20 (by decide) ?_ ?_
  · refine zv_rload_n dX11_left_27 0 rfl ?_
    refine zv_iload_n dX11_left_28 2 rfl ?_
    refine zv_vc (zv_callVv [iv p2] (c_X11_finds κ.2.1 hw p0 p2 M0 hp0) zmd_X11_finds zwI_X11_finds zwS_X11_finds zwM_RX11_385 zcd_11 hp0 rfl (by decide) rfl (Nat.le_of_ble_eq_true rfl) dX11_left_29 (fun M7 _ _ => ?_))
    refine zv_rload_n dX11_left_32 0 rfl ?_
    refine zv_iload_n dX11_left_33 1 rfl ?_
    refine zv_vc (zv_callVv [iv p1] (c_X11_findLeft κ.2.1 hw p0 p1 M7 hp0) zmd_X11_findLeft zwI_X11_findLeft zwS_X11_findLeft zwM_RX11_443 zcd_11 hp0 rfl (by decide) rfl (Nat.le_of_ble_eq_true rfl) dX11_left_34 (fun M8 _ _ => ?_))
    refine zv_rload_n dX11_left_37 0 rfl ?_
    refine zg_RX11_428 dX11_left_38 hp0 ?_
    refine zv_rload_n dX11_left_41 0 rfl ?_
    refine zg_RX11_431 dX11_left_42 hp0 ?_
    refine zv_iload_n dX11_left_45 3 rfl ?_
    refine zv_pc (zv_callSl [jv (M8 p0 63), jv (M8 p0 64), iv p3] (c_X11_lowest κ.2.1 hw (M8 p0 63) (M8 p0 64) p3 M8 ) zmd_X11_lowest zwT_X11_lowest zwM_RX11_415 rfl (by decide) rfl (Nat.le_of_ble_eq_true rfl) dX11_left_46 (fun mh10 v9 h10 => ?_))
    obtain rfl := zpuE h10
    exact zv_ret (fun h => h) (zv_lret dX11_left_49)
  refine zv_ldc2 (z := (-1)) dX11_left_23 zwK_RX11_211 (by decide) ?_
  exact zv_ret (fun h => h) (zv_lret dX11_left_26)
def f_X11_letter (k : zK)  (p0 : Nat) (p1 : Int) (p2 : Int) (p3 : Int) (p4 : Int) (M0 : zM) : Option (zM × Int) :=
  zb1 (f_X11_within k p2 0 99 M0) (fun v1 => zsp1 (zbr v1 0 (v1 = 0) (some (.inl M0)) (zb1 (f_X11_areAges k p3 p4 M0) (fun v3 => zbr v3 0 (¬ v3 = 0) (zgd (0 ≤ (0 : Int) ∧ (0 : Int) < 4) (zbr (M0 (zfr k p0 4) (Int.toNat 0)) 40 (¬ M0 (zfr k p0 4) (Int.toNat 0) = 40) (zgd (0 ≤ (0 : Int) ∧ (0 : Int) < 4) (zlt (M0 (zfr k p0 4) (Int.toNat 0)) (fun x5 => zgd ((p1 = 0 ∨ p1 = 1) ∧ 0 ≤ x5 ∧ x5 < 160) (zlt (zst M0 (zfr k p0 19) x5.toNat (p1)) (fun M6 => zgd (0 ≤ x5 ∧ x5 < 160) (zlt (zst M6 (zfr k p0 15) x5.toNat (p2)) (fun M7 => zgd (0 ≤ x5 ∧ x5 < 160) (zlt (zst M7 (zfr k p0 16) x5.toNat (p3)) (fun M8 => zgd (0 ≤ x5 ∧ x5 < 160) (zlt (zst M8 (zfr k p0 17) x5.toNat (p4)) (fun M9 => zgd (0 ≤ (0 : Int) ∧ (0 : Int) < 4) (zgd (0 ≤ (0 : Int) ∧ (0 : Int) < 4) (zlt (zst M9 (zfr k p0 4) (Int.toNat 0) ((M9 (zfr k p0 4) (Int.toNat 0)) + 1)) (fun M10 => zgd (0 ≤ (0 : Int) ∧ (0 : Int) < 4) (some (.inr (M10, M10 (zfr k p0 4) (Int.toNat 0)))))))))))))))))) (zbd (f_X11_refuses k p0 1 M0) (fun M12 v11 => some (.inr (M12, v11)))))) (some (.inl M0))))) (fun r => some r) (fun M13 => zbd (f_X11_refuses k p0 0 M13) (fun M15 v14 => some (M15, v14))))
set_option maxRecDepth 20000 in
theorem c_X11_letter (l : Launch) {w : zW} (hw : zWk w)  (p0 : Nat) (p1 : Int) (p2 : Int) (p3 : Int) (p4 : Int) (M0 : zM) (hp0 : ztag w.1 p0 = 12) : zCn l yX11_letter cX11_letter 6 (some .int) (2) 1 w [rn w p0, iv p1, iv p2, iv p3, iv p4] M0 (f_X11_letter w.1 p0 p1 p2 p3 p4 M0) := by
  have hT := hw.1
  refine zCn_of (own := RX11) (by decide) rfl hw (Nat.le_of_ble_eq_true rfl) [(0, rn w p0), (1, iv p1), (2, iv p2), (3, iv p3), (4, iv p4)] rfl ?_
  intro κ hl
  subst hl
  unfold f_X11_letter
  refine zv_iload_n dX11_letter_0 2 rfl ?_
  refine zv_iconst (z := 0) dX11_letter_1 ?_
  refine zv_bipush (z := 99) dX11_letter_2 (by decide) ?_
  refine zv_pc (zv_callSi [iv p2, iv 0, iv 99] (c_X11_within κ.2.1 hw p2 0 99 M0 ) zmd_X11_within zwT_X11_within zwM_RX11_183 rfl (by decide) rfl (Nat.le_of_ble_eq_true rfl) dX11_letter_4 (fun mh2 v1 h2 => ?_))
  obtain rfl := zpuE h2
  refine zv_joinS1 (fun r => r) 19 (fun M13 => [(0, rn w p0)]) (fun M13 => []) (fun M13 => M13) ?_ (fun M13 => ?_)
  · refine zv_if_eq (tgt := 19) dX11_letter_7 (by decide) ?_ ?_
    · exact zv_sub (L' := [(0, rn w p0)]) [0] rfl (zv_exit (fun h => h))
    refine zv_iload_n dX11_letter_10 3 rfl ?_
    refine zv_iload dX11_letter_11 4 rfl ?_
    refine zv_pc (zv_callSi [iv p3, iv p4] (c_X11_areAges κ.2.1 hw p3 p4 M0 ) zmd_X11_areAges zwT_X11_areAges zwM_RX11_407 rfl (by decide) rfl (Nat.le_of_ble_eq_true rfl) dX11_letter_13 (fun mh4 v3 h4 => ?_))
    obtain rfl := zpuE h4
    refine zv_if_ne (tgt := 25) dX11_letter_16 (by decide) ?_ ?_
    · refine zv_rload_n dX11_letter_25 0 rfl ?_
      refine zg_RX11_22 dX11_letter_26 hp0 ?_
      refine zv_iconst (z := 0) dX11_letter_29 ?_
      refine zv_iald dX11_letter_30 (zta_11_4 hT hp0) (ztl_11_4 hT hp0) (by decide) ?_
      refine zv_bipush (z := 40) dX11_letter_31 (by decide) ?_
      refine zv_icmp_ne (tgt := 42) dX11_letter_33 (by decide) ?_ ?_
      · refine zv_rload_n dX11_letter_42 0 rfl ?_
        refine zg_RX11_22 dX11_letter_43 hp0 ?_
        refine zv_iconst (z := 0) dX11_letter_46 ?_
        refine zv_iald dX11_letter_47 (zta_11_4 hT hp0) (ztl_11_4 hT hp0) (by decide) ?_
        refine zv_istore dX11_letter_48 (fun x5 => [(5, iv x5), (0, rn w p0), (1, iv p1), (2, iv p2), (3, iv p3), (4, iv p4)]) (by decide) (fun _ => rfl) (fun x5 => ?_)
        refine zv_rload_n dX11_letter_50 1 rfl ?_
        refine zg_RX11_68 dX11_letter_51 hp0 ?_
        refine zv_iload dX11_letter_54 0 rfl ?_
        refine zv_iload_n dX11_letter_56 2 rfl ?_
        refine zv_zast dX11_letter_57 (zta_11_19 hT hp0) (ztl_11_19 hT hp0) (by decide) (fun M6 => ?_)
        refine zv_rload_n dX11_letter_58 1 rfl ?_
        refine zg_RX11_55 dX11_letter_59 hp0 ?_
        refine zv_iload dX11_letter_62 0 rfl ?_
        refine zv_iload_n dX11_letter_64 3 rfl ?_
        refine zv_iast dX11_letter_65 (zta_11_15 hT hp0) (ztl_11_15 hT hp0) (by decide) (fun M7 => ?_)
        refine zv_rload_n dX11_letter_66 1 rfl ?_
        refine zg_RX11_58 dX11_letter_67 hp0 ?_
        refine zv_iload dX11_letter_70 0 rfl ?_
        refine zv_iload_n dX11_letter_72 4 rfl ?_
        refine zv_iast dX11_letter_73 (zta_11_16 hT hp0) (ztl_11_16 hT hp0) (by decide) (fun M8 => ?_)
        refine zv_rload_n dX11_letter_74 1 rfl ?_
        refine zg_RX11_61 dX11_letter_75 hp0 ?_
        refine zv_iload dX11_letter_78 0 rfl ?_
        refine zv_iload dX11_letter_80 5 rfl ?_
        refine zv_iast dX11_letter_82 (zta_11_17 hT hp0) (ztl_11_17 hT hp0) (by decide) (fun M9 => ?_)
        refine zv_rload_n dX11_letter_83 1 rfl ?_
        refine zg_RX11_22 dX11_letter_84 hp0 ?_
        refine zv_iconst (z := 0) dX11_letter_87 ?_
        refine zv_dup2 dX11_letter_88 rfl rfl ?_
        refine zv_iald dX11_letter_89 (zta_11_4 hT hp0) (ztl_11_4 hT hp0) (by decide) ?_
        refine zv_iconst (z := 1) dX11_letter_90 ?_
        refine zv_iadd dX11_letter_91 ?_
        refine zv_iast dX11_letter_92 (zta_11_4 hT hp0) (ztl_11_4 hT hp0) (by decide) (fun M10 => ?_)
        refine zv_rload_n dX11_letter_93 1 rfl ?_
        refine zg_RX11_22 dX11_letter_94 hp0 ?_
        refine zv_iconst (z := 0) dX11_letter_97 ?_
        refine zv_iald dX11_letter_98 (zta_11_4 hT hp0) (ztl_11_4 hT hp0) (by decide) ?_
        exact zv_ret (fun h => h) (zv_iret dX11_letter_99)
      refine zv_rload_n dX11_letter_36 0 rfl ?_
      refine zv_iconst (z := 1) dX11_letter_37 ?_
      refine (zv_callVi [iv 1] (c_X11_refuses κ.2.1 hw p0 1 M0 hp0) zmd_X11_refuses zwI_X11_refuses zwS_X11_refuses zwM_RX11_175 zcd_11 hp0 rfl (by decide) rfl (Nat.le_of_ble_eq_true rfl) dX11_letter_38 (fun M12 v11 _ => ?_))
      exact zv_ret (fun h => h) (zv_iret dX11_letter_41)
    exact zv_sub (L' := [(0, rn w p0)]) [0] rfl (zv_exit (fun h => h))
  refine zv_rload_n dX11_letter_19 0 rfl ?_
  refine zv_iconst (z := 0) dX11_letter_20 ?_
  refine (zv_callVi [iv 0] (c_X11_refuses κ.2.1 hw p0 0 M13 hp0) zmd_X11_refuses zwI_X11_refuses zwS_X11_refuses zwM_RX11_175 zcd_11 hp0 rfl (by decide) rfl (Nat.le_of_ble_eq_true rfl) dX11_letter_21 (fun M15 v14 _ => ?_))
  exact zv_ret (fun h => h) (zv_iret dX11_letter_24)
def fb_X11_levels_27 (k : zK)  (l0 : Nat) (l1 : Int) (l2 : Int) (M0 : zM) (y3 : Int) (y4 : Int) (y5 : Int) : Option ((Int × Int × Int) ⊕ (Int × Int)) :=
  zgd (0 ≤ (0 : Int) ∧ (0 : Int) < 4) (zbr y5 (M0 (zfr k l0 4) (Int.toNat 0)) (M0 (zfr k l0 4) (Int.toNat 0) ≤ y5) (some (.inr (y3, y4))) (zgd (0 ≤ y5 ∧ y5 < 160) (zlt (M0 (zfr k l0 15) y5.toNat) (fun x5 => zgd (0 ≤ y5 ∧ y5 < 160) (zb1 (zbr (M0 (zfr k l0 19) y5.toNat) 0 (M0 (zfr k l0 19) y5.toNat = 0) (some (y4)) (zgd (0 ≤ y5 ∧ y5 < 160) (zbr (M0 (zfr k l0 16) y5.toNat) l1 (M0 (zfr k l0 16) y5.toNat < l1) (some (y4)) (zbr (x5 - 1) y4 (y4 ≤ x5 - 1) (some (y4)) (zlt (x5 - 1) (fun x6 => some (x6))))))) (fun x7 => zgd (0 ≤ y5 ∧ y5 < 160) (zbr (M0 (zfr k l0 19) y5.toNat) 0 (¬ M0 (zfr k l0 19) y5.toNat = 0) (zlt (y5 + 1) (fun x8 => some (.inl (y3, x7, x8)))) (zgd (0 ≤ y5 ∧ y5 < 160) (zbr (M0 (zfr k l0 17) y5.toNat) l1 (l1 < M0 (zfr k l0 17) y5.toNat) (zlt (y5 + 1) (fun x9 => some (.inl (y3, x7, x9)))) (zbr x5 y3 (x5 ≤ y3) (zlt (y5 + 1) (fun x10 => some (.inl (y3, x7, x10)))) (zlt (y5 + 1) (fun x11 => some (.inl (x5, x7, x11))))))))))))))
def f_X11_levels (k : zK)  (p0 : Nat) (p1 : Int) (p2 : Int) (M0 : zM) : Option Int :=
  zb1 (f_X11_isAge k p1 M0) (fun v1 => zbr v1 0 (v1 = 0) (some (-1)) (zb1 (f_X11_within k p2 0 1 M0) (fun v3 => zbr v3 0 (¬ v3 = 0) (zb2 (zw3 (fb_X11_levels_27 k p0 p1 p2 M0) zfu 0 99 0) (fun x12 x13 => zbr x12 x13 (x12 ≤ x13) (zbr p2 0 (¬ p2 = 0) (some x13) (some x12)) (some (-1)))) (some (-1)))))
set_option maxRecDepth 20000 in
theorem vl_X11_levels_27 {κ : zC} {w : zW} (hw : zWk w)  (l0 : Nat) (l1 : Int) (l2 : Int) (g0 : ztag w.1 l0 = 12) (M0 : zM) (E : (Int × Int) → Prop) (hX : ∀ (u3 : Int) (u4 : Int), E (u3, u4) → zB cX11_levels RX11 7 (some .int) κ w (0, 0, 1) 119 [(2, iv l2), (3, iv u3), (4, iv u4)] [] M0)  (y3 : Int) (y4 : Int) (y5 : Int) :
    zV cX11_levels RX11 7 (some .int) κ w (0, 0, 1) 27 [(3, iv y3), (4, iv y4), (5, iv y5), (0, rn w l0), (1, iv l1), (2, iv l2)] [] M0 (zw3 (fb_X11_levels_27 w.1 l0 l1 l2 M0) zfu y3 y4 y5) E := by
  have hT := hw.1
  refine zv_loop3 (fun y3 y4 y5 => [(3, iv y3), (4, iv y4), (5, iv y5), (0, rn w l0), (1, iv l1), (2, iv l2)]) (fun y3 y4 y5 => M0) (fun y3 y4 y5 => ?_) y3 y4 y5
  unfold fb_X11_levels_27
  refine zv_iload dX11_levels_27 2 rfl ?_
  refine zv_rload_n dX11_levels_29 3 rfl ?_
  refine zg_RX11_22 dX11_levels_30 g0 ?_
  refine zv_iconst (z := 0) dX11_levels_33 ?_
  refine zv_iald dX11_levels_34 (zta_11_4 hT g0) (ztl_11_4 hT g0) (by decide) ?_
  refine zv_icmp_ge (tgt := 119) dX11_levels_35 (by decide) ?_ ?_
  · exact zv_sub (L' := [(2, iv l2), (3, iv y3), (4, iv y4)]) [5, 0, 1] rfl (zv_exit (fun h => hX _ _ h))
  refine zv_rload_n dX11_levels_38 3 rfl ?_
  refine zg_RX11_55 dX11_levels_39 g0 ?_
  refine zv_iload dX11_levels_42 2 rfl ?_
  refine zv_iald dX11_levels_44 (zta_11_15 hT g0) (ztl_11_15 hT g0) (by decide) ?_
  refine zv_istore dX11_levels_45 (fun x5 => [(6, iv x5), (3, iv y3), (4, iv y4), (5, iv y5), (0, rn w l0), (1, iv l1), (2, iv l2)]) (by decide) (fun _ => rfl) (fun x5 => ?_)
  refine zv_rload_n dX11_levels_47 4 rfl ?_
  refine zg_RX11_68 dX11_levels_48 g0 ?_
  refine zv_iload dX11_levels_51 3 rfl ?_
  refine zv_zald dX11_levels_53 (zta_11_19 hT g0) (ztl_11_19 hT g0) (by decide) ?_
  refine zv_join1 83 (fun x7 => [(4, iv x7), (6, iv x5), (3, iv y3), (5, iv y5), (0, rn w l0), (1, iv l1), (2, iv l2)]) (fun x7 => []) (fun x7 => M0) ?_ (fun x7 => ?_)
  · refine zv_if_eq (tgt := 83) dX11_levels_54 (by decide) ?_ ?_
    · exact zv_sub (L' := [(4, iv y4), (6, iv x5), (3, iv y3), (5, iv y5), (0, rn w l0), (1, iv l1), (2, iv l2)]) [2, 0, 1, 3, 4, 5, 6] rfl (zv_exit (fun h => h))
    refine zv_rload_n dX11_levels_57 4 rfl ?_
    refine zg_RX11_58 dX11_levels_58 g0 ?_
    refine zv_iload dX11_levels_61 3 rfl ?_
    refine zv_iald dX11_levels_63 (zta_11_16 hT g0) (ztl_11_16 hT g0) (by decide) ?_
    refine zv_iload_n dX11_levels_64 5 rfl ?_
    refine zv_icmp_lt (tgt := 83) dX11_levels_65 (by decide) ?_ ?_
    · exact zv_sub (L' := [(4, iv y4), (6, iv x5), (3, iv y3), (5, iv y5), (0, rn w l0), (1, iv l1), (2, iv l2)]) [2, 0, 1, 3, 4, 5, 6] rfl (zv_exit (fun h => h))
    refine zv_iload dX11_levels_68 0 rfl ?_
    refine zv_iconst (z := 1) dX11_levels_70 ?_
    refine zv_isub dX11_levels_71 ?_
    refine zv_iload dX11_levels_72 2 rfl ?_
    refine zv_icmp_ge (tgt := 83) dX11_levels_74 (by decide) ?_ ?_
    · exact zv_sub (L' := [(4, iv y4), (6, iv x5), (3, iv y3), (5, iv y5), (0, rn w l0), (1, iv l1), (2, iv l2)]) [2, 0, 1, 3, 4, 5, 6] rfl (zv_exit (fun h => h))
    refine zv_iload dX11_levels_77 0 rfl ?_
    refine zv_iconst (z := 1) dX11_levels_79 ?_
    refine zv_isub dX11_levels_80 ?_
    refine zv_istore dX11_levels_81 (fun x6 => [(4, iv x6), (6, iv x5), (3, iv y3), (5, iv y5), (0, rn w l0), (1, iv l1), (2, iv l2)]) (by decide) (fun _ => rfl) (fun x6 => ?_)
    exact zv_sub (L' := [(4, iv x6), (6, iv x5), (3, iv y3), (5, iv y5), (0, rn w l0), (1, iv l1), (2, iv l2)]) [0, 1, 2, 3, 4, 5, 6] rfl (zv_exit (fun h => h))
  refine zv_rload_n dX11_levels_83 4 rfl ?_
  refine zg_RX11_68 dX11_levels_84 g0 ?_
  refine zv_iload dX11_levels_87 3 rfl ?_
  refine zv_zald dX11_levels_89 (zta_11_19 hT g0) (ztl_11_19 hT g0) (by decide) ?_
  refine zv_if_ne (tgt := 113) dX11_levels_90 (by decide) ?_ ?_
  · refine zv_iinc dX11_levels_113 3 rfl (fun x8 => [(5, iv x8), (4, iv x7), (6, iv x5), (3, iv y3), (0, rn w l0), (1, iv l1), (2, iv l2)]) (by decide) (fun _ => rfl) (fun x8 => ?_)
    refine zv_goto (tgt := 27) dX11_levels_116 (by decide) ?_
    exact zv_sub (L' := [(3, iv y3), (4, iv x7), (5, iv x8), (0, rn w l0), (1, iv l1), (2, iv l2)]) [3, 1, 0, 4, 5, 6] rfl (zv_exit (fun h => h))
  refine zv_rload_n dX11_levels_93 4 rfl ?_
  refine zg_RX11_61 dX11_levels_94 g0 ?_
  refine zv_iload dX11_levels_97 3 rfl ?_
  refine zv_iald dX11_levels_99 (zta_11_17 hT g0) (ztl_11_17 hT g0) (by decide) ?_
  refine zv_iload_n dX11_levels_100 5 rfl ?_
  refine zv_icmp_gt (tgt := 113) dX11_levels_101 (by decide) ?_ ?_
  · refine zv_iinc dX11_levels_113 3 rfl (fun x9 => [(5, iv x9), (4, iv x7), (6, iv x5), (3, iv y3), (0, rn w l0), (1, iv l1), (2, iv l2)]) (by decide) (fun _ => rfl) (fun x9 => ?_)
    refine zv_goto (tgt := 27) dX11_levels_116 (by decide) ?_
    exact zv_sub (L' := [(3, iv y3), (4, iv x7), (5, iv x9), (0, rn w l0), (1, iv l1), (2, iv l2)]) [3, 1, 0, 4, 5, 6] rfl (zv_exit (fun h => h))
  refine zv_iload dX11_levels_104 1 rfl ?_
  refine zv_iload_n dX11_levels_106 2 rfl ?_
  refine zv_icmp_le (tgt := 113) dX11_levels_107 (by decide) ?_ ?_
  · refine zv_iinc dX11_levels_113 3 rfl (fun x10 => [(5, iv x10), (4, iv x7), (6, iv x5), (3, iv y3), (0, rn w l0), (1, iv l1), (2, iv l2)]) (by decide) (fun _ => rfl) (fun x10 => ?_)
    refine zv_goto (tgt := 27) dX11_levels_116 (by decide) ?_
    exact zv_sub (L' := [(3, iv y3), (4, iv x7), (5, iv x10), (0, rn w l0), (1, iv l1), (2, iv l2)]) [3, 1, 0, 4, 5, 6] rfl (zv_exit (fun h => h))
  refine zv_iload dX11_levels_110 1 rfl ?_
  refine zv_istore_np (L' := [(3, iv x5), (4, iv x7), (6, iv x5), (5, iv y5), (0, rn w l0), (1, iv l1), (2, iv l2)]) (by rfl) dX11_levels_112 (by decide) rfl ?_
  refine zv_iinc dX11_levels_113 3 rfl (fun x11 => [(5, iv x11), (3, iv x5), (4, iv x7), (6, iv x5), (0, rn w l0), (1, iv l1), (2, iv l2)]) (by decide) (fun _ => rfl) (fun x11 => ?_)
  refine zv_goto (tgt := 27) dX11_levels_116 (by decide) ?_
  exact zv_sub (L' := [(3, iv x5), (4, iv x7), (5, iv x11), (0, rn w l0), (1, iv l1), (2, iv l2)]) [1, 2, 0, 4, 5, 6] rfl (zv_exit (fun h => h))
theorem c_X11_levels (l : Launch) {w : zW} (hw : zWk w)  (p0 : Nat) (p1 : Int) (p2 : Int) (M0 : zM) (hp0 : ztag w.1 p0 = 12) : zCn l yX11_levels cX11_levels 7 (some .int) (1) 1 w [rn w p0, iv p1, iv p2] M0 ((f_X11_levels w.1 p0 p1 p2 M0).map fun v => (M0, v)) := by
  have hT := hw.1
  refine zCn_ofP (own := RX11) (by decide) rfl hw (Nat.le_of_ble_eq_true rfl) [(0, rn w p0), (1, iv p1), (2, iv p2)] rfl ?_
  intro κ hl
  subst hl
  unfold f_X11_levels
  refine zv_iload_n dX11_levels_0 1 rfl ?_
  refine zv_pc (zv_callSi [iv p1] (c_X11_isAge κ.2.1 hw p1 M0 ) zmd_X11_isAge zwT_X11_isAge zwM_RX11_335 rfl (by decide) rfl (Nat.le_of_ble_eq_true rfl) dX11_levels_1 (fun mh2 v1 h2 => ?_))
  obtain rfl := zpuE h2
  refine zv_if_eq (tgt := 16) dX11_levels_4 (by decide) ?_ ?_
  · refine zv_iconst (z := (-1)) dX11_levels_16 ?_
    exact zv_ret (fun h => h) (zv_iret dX11_levels_17)
  refine zv_iload_n dX11_levels_7 2 rfl ?_
  refine zv_iconst (z := 0) dX11_levels_8 ?_
  refine zv_iconst (z := 1) dX11_levels_9 ?_
  refine zv_pc (zv_callSi [iv p2, iv 0, iv 1] (c_X11_within κ.2.1 hw p2 0 1 M0 ) zmd_X11_within zwT_X11_within zwM_RX11_183 rfl (by decide) rfl (Nat.le_of_ble_eq_true rfl) dX11_levels_10 (fun mh4 v3 h4 => ?_))
  obtain rfl := zpuE h4
  refine zv_if_ne (tgt := 18) dX11_levels_13 (by decide) ?_ ?_
  · refine zv_iconst (z := 0) dX11_levels_18 ?_
    refine zv_istore_np (L' := [(3, iv 0), (0, rn w p0), (1, iv p1), (2, iv p2)]) (by rfl) dX11_levels_19 (by decide) rfl ?_
    refine zv_bipush (z := 99) dX11_levels_20 (by decide) ?_
    refine zv_istore_p (L' := [(4, iv 99), (3, iv 0), (0, rn w p0), (1, iv p1), (2, iv p2)]) dX11_levels_22 (by decide) rfl ?_
    refine zv_iconst (z := 0) dX11_levels_24 ?_
    refine zv_istore_p (L' := [(5, iv 0), (4, iv 99), (3, iv 0), (0, rn w p0), (1, iv p1), (2, iv p2)]) dX11_levels_25 (by decide) rfl ?_
    refine zv_join2 119 (fun x12 x13 => [(2, iv p2), (3, iv x12), (4, iv x13)]) (fun x12 x13 => []) (fun x12 x13 => M0) (zv_sub (L' := [(3, iv 0), (4, iv 99), (5, iv 0), (0, rn w p0), (1, iv p1), (2, iv p2)]) [2, 1, 0, 3, 4, 5] rfl (vl_X11_levels_27 hw p0 p1 p2 hp0 M0 _ (fun _ _ h => h) 0 99 0)) (fun x12 x13 => ?_)
    refine zv_iload_n dX11_levels_119 1 rfl ?_
    refine zv_iload dX11_levels_120 2 rfl ?_
    refine zv_icmp_le (tgt := 129) dX11_levels_122 (by decide) ?_ ?_
    · refine zv_iload_n dX11_levels_129 0 rfl ?_
      refine zv_if_ne (tgt := 137) dX11_levels_130 (by decide) ?_ ?_
      · refine zv_iload dX11_levels_137 2 rfl ?_
        exact zv_ret (fun h => h) (zv_iret dX11_levels_139)
      refine zv_iload_n dX11_levels_133 1 rfl ?_
      refine zv_goto (tgt := 139) dX11_levels_134 (by decide) ?_
      exact zv_ret (fun h => h) (zv_iret dX11_levels_139)
    refine zv_iconst (z := (-1)) dX11_levels_125 ?_
    refine zv_goto (tgt := 139) dX11_levels_126 (by decide) ?_
    exact zv_ret (fun h => h) (zv_iret dX11_levels_139)
  refine zv_iconst (z := (-1)) dX11_levels_16 ?_
  exact zv_ret (fun h => h) (zv_iret dX11_levels_17)
def f_X11_lived (k : zK)  (p0 : Nat) (p1 : Int) (p2 : Int) (p3 : Int) (p4 : Int) (M0 : zM) : Option (zM × Int) :=
  zb1 (f_X11_isCell k p1 M0) (fun v1 => zbr v1 0 (v1 = 0) (some (M0, (-1))) (zb1 (f_X11_areAges k p2 p3 M0) (fun v3 => zbr v3 0 (v3 = 0) (some (M0, (-1))) (zb1 (f_X11_within k p4 0 1 M0) (fun v5 => zbr v5 0 (¬ v5 = 0) (zb1 (f_X11_findLive k p0 p1 p2 p3 M0) (fun M7 => zbl (M7 p0 60) 0 (¬ M7 p0 60 = 0) (zb1 (f_X11_lowest k (M7 p0 59) (M7 p0 60) p4 M7) (fun v8 => some (M7, v8))) (some (M7, (-1))))) (some (M0, (-1))))))))
theorem c_X11_lived (l : Launch) {w : zW} (hw : zWk w)  (p0 : Nat) (p1 : Int) (p2 : Int) (p3 : Int) (p4 : Int) (M0 : zM) (hp0 : ztag w.1 p0 = 12) : zCn l yX11_lived cX11_lived 5 (some .long) (4) 2 w [rn w p0, iv p1, iv p2, iv p3, iv p4] M0 (f_X11_lived w.1 p0 p1 p2 p3 p4 M0) := by
  have hT := hw.1
  refine zCn_of (own := RX11) (by decide) rfl hw (Nat.le_of_ble_eq_true rfl) [(0, rn w p0), (1, iv p1), (2, iv p2), (3, iv p3), (4, iv p4)] rfl ?_
  intro κ hl
  subst hl
  unfold f_X11_lived
  refine zv_iload_n dX11_lived_0 1 rfl ?_
  refine zv_pc (zv_callSi [iv p1] (c_X11_isCell κ.2.1 hw p1 M0 ) zmd_X11_isCell zwT_X11_isCell zwM_RX11_191 rfl (by decide) rfl (Nat.le_of_ble_eq_true rfl) dX11_lived_1 (fun mh2 v1 h2 => ?_))
  obtain rfl := zpuE h2
  refine zv_if_eq (tgt := 25) dX11_lived_4 (by decide) ?_ ?_
  · refine zv_ldc2 (z := (-1)) dX11_lived_25 zwK_RX11_211 (by decide) ?_
    exact zv_ret (fun h => h) (zv_lret dX11_lived_28)
  refine zv_iload_n dX11_lived_7 2 rfl ?_
  refine zv_iload_n dX11_lived_8 3 rfl ?_
  refine zv_pc (zv_callSi [iv p2, iv p3] (c_X11_areAges κ.2.1 hw p2 p3 M0 ) zmd_X11_areAges zwT_X11_areAges zwM_RX11_407 rfl (by decide) rfl (Nat.le_of_ble_eq_true rfl) dX11_lived_9 (fun mh4 v3 h4 => ?_))
  obtain rfl := zpuE h4
  refine zv_if_eq (tgt := 25) dX11_lived_12 (by decide) ?_ ?_
  · refine zv_ldc2 (z := (-1)) dX11_lived_25 zwK_RX11_211 (by decide) ?_
    exact zv_ret (fun h => h) (zv_lret dX11_lived_28)
  refine zv_iload dX11_lived_15 4 rfl ?_
  refine zv_iconst (z := 0) dX11_lived_17 ?_
  refine zv_iconst (z := 1) dX11_lived_18 ?_
  refine zv_pc (zv_callSi [iv p4, iv 0, iv 1] (c_X11_within κ.2.1 hw p4 0 1 M0 ) zmd_X11_within zwT_X11_within zwM_RX11_183 rfl (by decide) rfl (Nat.le_of_ble_eq_true rfl) dX11_lived_19 (fun mh6 v5 h6 => ?_))
  obtain rfl := zpuE h6
  refine zv_if_ne (tgt := 29) dX11_lived_22 (by decide) ?_ ?_
  · refine zv_rload_n dX11_lived_29 0 rfl ?_
    refine zv_iload_n dX11_lived_30 1 rfl ?_
    refine zv_iload_n dX11_lived_31 2 rfl ?_
    refine zv_iload_n dX11_lived_32 3 rfl ?_
    refine zv_vc (zv_callVv [iv p1, iv p2, iv p3] (c_X11_findLive κ.2.1 hw p0 p1 p2 p3 M0 hp0) zmd_X11_findLive zwI_X11_findLive zwS_X11_findLive zwM_RX11_411 zcd_11 hp0 rfl (by decide) rfl (Nat.le_of_ble_eq_true rfl) dX11_lived_33 (fun M7 _ _ => ?_))
    refine zv_rload_n dX11_lived_36 0 rfl ?_
    refine zg_RX11_404 dX11_lived_37 hp0 ?_
    refine zv_lconst (z := 0) dX11_lived_40 (by decide) ?_
    refine zv_lcmp_ne (tgt := 51) dX11_lived_41 dX11_lived_42 (by decide) ?_ ?_
    · refine zv_rload_n dX11_lived_51 0 rfl ?_
      refine zg_RX11_401 dX11_lived_52 hp0 ?_
      refine zv_rload_n dX11_lived_55 0 rfl ?_
      refine zg_RX11_404 dX11_lived_56 hp0 ?_
      refine zv_iload dX11_lived_59 4 rfl ?_
      refine zv_pc (zv_callSl [jv (M7 p0 59), jv (M7 p0 60), iv p4] (c_X11_lowest κ.2.1 hw (M7 p0 59) (M7 p0 60) p4 M7 ) zmd_X11_lowest zwT_X11_lowest zwM_RX11_415 rfl (by decide) rfl (Nat.le_of_ble_eq_true rfl) dX11_lived_61 (fun mh9 v8 h9 => ?_))
      obtain rfl := zpuE h9
      exact zv_ret (fun h => h) (zv_lret dX11_lived_64)
    refine zv_ldc2 (z := (-1)) dX11_lived_45 zwK_RX11_211 (by decide) ?_
    refine zv_goto (tgt := 64) dX11_lived_48 (by decide) ?_
    exact zv_ret (fun h => h) (zv_lret dX11_lived_64)
  refine zv_ldc2 (z := (-1)) dX11_lived_25 zwK_RX11_211 (by decide) ?_
  exact zv_ret (fun h => h) (zv_lret dX11_lived_28)
def f_X11_mud (k : zK)  (p0 : Nat) (p1 : Int) (p2 : Int) (M0 : zM) : Option (zM × Int) :=
  zb1 (f_X11_isCell k p1 M0) (fun v1 => zbr v1 0 (¬ v1 = 0) (zgd (0 ≤ p1 ∧ p1 < 1024) (zsp1 (zbr (M0 (zfr k p0 8) p1.toNat) 0 (0 ≤ M0 (zfr k p0 8) p1.toNat) (some (.inl M0)) (zb1 (f_X11_mudMany k p0 M0) (fun v3 => zbr v3 40 (¬ v3 = 40) (some (.inl M0)) (zbd (f_X11_refuses k p0 1 M0) (fun M6 v5 => some (.inr (M6, v5))))))) (fun r => some r) (fun M7 => zb1 (zbr p2 0 (p2 = 0) (some (0)) (some (1))) (fun x8 => zgd (0 ≤ p1 ∧ p1 < 1024) (zlt (zst M7 (zfr k p0 8) p1.toNat (x8)) (fun M9 => zb1 (f_X11_mudMany k p0 M9) (fun v10 => some (M9, v10)))))))) (zbd (f_X11_refuses k p0 0 M0) (fun M13 v12 => some (M13, v12))))
theorem c_X11_mud (l : Launch) {w : zW} (hw : zWk w)  (p0 : Nat) (p1 : Int) (p2 : Int) (M0 : zM) (hp0 : ztag w.1 p0 = 12) : zCn l yX11_mud cX11_mud 3 (some .int) (1) 1 w [rn w p0, iv p1, iv p2] M0 (f_X11_mud w.1 p0 p1 p2 M0) := by
  have hT := hw.1
  refine zCn_of (own := RX11) (by decide) rfl hw (Nat.le_of_ble_eq_true rfl) [(0, rn w p0), (1, iv p1), (2, iv p2)] rfl ?_
  intro κ hl
  subst hl
  unfold f_X11_mud
  refine zv_iload_n dX11_mud_0 1 rfl ?_
  refine zv_pc (zv_callSi [iv p1] (c_X11_isCell κ.2.1 hw p1 M0 ) zmd_X11_isCell zwT_X11_isCell zwM_RX11_191 rfl (by decide) rfl (Nat.le_of_ble_eq_true rfl) dX11_mud_1 (fun mh2 v1 h2 => ?_))
  obtain rfl := zpuE h2
  refine zv_if_ne (tgt := 13) dX11_mud_4 (by decide) ?_ ?_
  · refine zv_rload_n dX11_mud_13 0 rfl ?_
    refine zg_RX11_34 dX11_mud_14 hp0 ?_
    refine zv_iload_n dX11_mud_17 1 rfl ?_
    refine zv_iald dX11_mud_18 (zta_11_8 hT hp0) (ztl_11_8 hT hp0) (by decide) ?_
    refine zv_joinS1 (fun r => r) 37 (fun M7 => [(0, rn w p0), (1, iv p1), (2, iv p2)]) (fun M7 => []) (fun M7 => M7) ?_ (fun M7 => ?_)
    · refine zv_if_ge (tgt := 37) dX11_mud_19 (by decide) ?_ ?_
      · exact zv_sub (L' := [(0, rn w p0), (1, iv p1), (2, iv p2)]) [0, 1, 2] rfl (zv_exit (fun h => h))
      refine zv_rload_n dX11_mud_22 0 rfl ?_
      refine zv_pc (zv_callVi [] (c_X11_mudMany κ.2.1 hw p0 M0 hp0) zmd_X11_mudMany zwI_X11_mudMany zwS_X11_mudMany zwM_RX11_459 zcd_11 hp0 rfl (by decide) rfl (Nat.le_of_ble_eq_true rfl) dX11_mud_23 (fun mh4 v3 h4 => ?_))
      obtain rfl := zpuE h4
      refine zv_bipush (z := 40) dX11_mud_26 (by decide) ?_
      refine zv_icmp_ne (tgt := 37) dX11_mud_28 (by decide) ?_ ?_
      · exact zv_sub (L' := [(0, rn w p0), (1, iv p1), (2, iv p2)]) [0, 1, 2] rfl (zv_exit (fun h => h))
      refine zv_rload_n dX11_mud_31 0 rfl ?_
      refine zv_iconst (z := 1) dX11_mud_32 ?_
      refine (zv_callVi [iv 1] (c_X11_refuses κ.2.1 hw p0 1 M0 hp0) zmd_X11_refuses zwI_X11_refuses zwS_X11_refuses zwM_RX11_175 zcd_11 hp0 rfl (by decide) rfl (Nat.le_of_ble_eq_true rfl) dX11_mud_33 (fun M6 v5 _ => ?_))
      exact zv_ret (fun h => h) (zv_iret dX11_mud_36)
    refine zv_rload_n dX11_mud_37 0 rfl ?_
    refine zg_RX11_34 dX11_mud_38 hp0 ?_
    refine zv_iload_n dX11_mud_41 1 rfl ?_
    refine zv_iload_n dX11_mud_42 2 rfl ?_
    refine zv_join1 51 (fun x8 => [(0, rn w p0)]) (fun x8 => [iv x8, iv p1, rn w (zfr w.1 p0 8)]) (fun x8 => M7) ?_ (fun x8 => ?_)
    · refine zv_if_eq (tgt := 50) dX11_mud_43 (by decide) ?_ ?_
      · refine zv_iconst (z := 0) dX11_mud_50 ?_
        exact zv_sub (L' := [(0, rn w p0)]) [0] rfl (zv_exit (fun h => h))
      refine zv_iconst (z := 1) dX11_mud_46 ?_
      refine zv_goto (tgt := 51) dX11_mud_47 (by decide) ?_
      exact zv_sub (L' := [(0, rn w p0)]) [0] rfl (zv_exit (fun h => h))
    refine zv_iast dX11_mud_51 (zta_11_8 hT hp0) (ztl_11_8 hT hp0) (by decide) (fun M9 => ?_)
    refine zv_rload_n dX11_mud_52 0 rfl ?_
    refine zv_pc (zv_callVi [] (c_X11_mudMany κ.2.1 hw p0 M9 hp0) zmd_X11_mudMany zwI_X11_mudMany zwS_X11_mudMany zwM_RX11_459 zcd_11 hp0 rfl (by decide) rfl (Nat.le_of_ble_eq_true rfl) dX11_mud_53 (fun mh11 v10 h11 => ?_))
    obtain rfl := zpuE h11
    exact zv_ret (fun h => h) (zv_iret dX11_mud_56)
  refine zv_rload_n dX11_mud_7 0 rfl ?_
  refine zv_iconst (z := 0) dX11_mud_8 ?_
  refine (zv_callVi [iv 0] (c_X11_refuses κ.2.1 hw p0 0 M0 hp0) zmd_X11_refuses zwI_X11_refuses zwS_X11_refuses zwM_RX11_175 zcd_11 hp0 rfl (by decide) rfl (Nat.le_of_ble_eq_true rfl) dX11_mud_9 (fun M13 v12 _ => ?_))
  exact zv_ret (fun h => h) (zv_iret dX11_mud_12)
def f_X11_place (k : zK)  (p0 : Nat) (p1 : Int) (M0 : zM) : Option (zM × Int) :=
  zb1 (f_X11_isCell k p1 M0) (fun v1 => zsp1 (zbr v1 0 (v1 = 0) (some (.inl M0)) (zb1 (f_X11_isPlace k p0 p1 M0) (fun v3 => zbr v3 0 (v3 = 0) (zgd (0 ≤ (0 : Int) ∧ (0 : Int) < 4) (zbr (M0 (zfr k p0 3) (Int.toNat 0)) 10 (¬ M0 (zfr k p0 3) (Int.toNat 0) = 10) (zgd (0 ≤ (0 : Int) ∧ (0 : Int) < 4) (zgd (0 ≤ M0 (zfr k p0 3) (Int.toNat 0) ∧ M0 (zfr k p0 3) (Int.toNat 0) < 40) (zlt (zst M0 (zfr k p0 14) (M0 (zfr k p0 3) (Int.toNat 0)).toNat (p1)) (fun M5 => zgd (0 ≤ (0 : Int) ∧ (0 : Int) < 4) (zgd (0 ≤ (0 : Int) ∧ (0 : Int) < 4) (zlt (zst M5 (zfr k p0 3) (Int.toNat 0) ((M5 (zfr k p0 3) (Int.toNat 0)) + 1)) (fun M6 => zgd (0 ≤ (0 : Int) ∧ (0 : Int) < 4) (some (.inr (M6, (M6 (zfr k p0 3) (Int.toNat 0)) - 1)))))))))) (zbd (f_X11_refuses k p0 1 M0) (fun M8 v7 => some (.inr (M8, v7)))))) (some (.inl M0))))) (fun r => some r) (fun M9 => zbd (f_X11_refuses k p0 0 M9) (fun M11 v10 => some (M11, v10))))
theorem c_X11_place (l : Launch) {w : zW} (hw : zWk w)  (p0 : Nat) (p1 : Int) (M0 : zM) (hp0 : ztag w.1 p0 = 12) : zCn l yX11_place cX11_place 2 (some .int) (1) 1 w [rn w p0, iv p1] M0 (f_X11_place w.1 p0 p1 M0) := by
  have hT := hw.1
  refine zCn_of (own := RX11) (by decide) rfl hw (Nat.le_of_ble_eq_true rfl) [(0, rn w p0), (1, iv p1)] rfl ?_
  intro κ hl
  subst hl
  unfold f_X11_place
  refine zv_iload_n dX11_place_0 1 rfl ?_
  refine zv_pc (zv_callSi [iv p1] (c_X11_isCell κ.2.1 hw p1 M0 ) zmd_X11_isCell zwT_X11_isCell zwM_RX11_191 rfl (by decide) rfl (Nat.le_of_ble_eq_true rfl) dX11_place_1 (fun mh2 v1 h2 => ?_))
  obtain rfl := zpuE h2
  refine zv_joinS1 (fun r => r) 15 (fun M9 => [(0, rn w p0)]) (fun M9 => []) (fun M9 => M9) ?_ (fun M9 => ?_)
  · refine zv_if_eq (tgt := 15) dX11_place_4 (by decide) ?_ ?_
    · exact zv_sub (L' := [(0, rn w p0)]) [0] rfl (zv_exit (fun h => h))
    refine zv_rload_n dX11_place_7 0 rfl ?_
    refine zv_iload_n dX11_place_8 1 rfl ?_
    refine zv_pc (zv_callVi [iv p1] (c_X11_isPlace κ.2.1 hw p0 p1 M0 hp0) zmd_X11_isPlace zwI_X11_isPlace zwS_X11_isPlace zwM_RX11_382 zcd_11 hp0 rfl (by decide) rfl (Nat.le_of_ble_eq_true rfl) dX11_place_9 (fun mh4 v3 h4 => ?_))
    obtain rfl := zpuE h4
    refine zv_if_eq (tgt := 21) dX11_place_12 (by decide) ?_ ?_
    · refine zv_rload_n dX11_place_21 0 rfl ?_
      refine zg_RX11_19 dX11_place_22 hp0 ?_
      refine zv_iconst (z := 0) dX11_place_25 ?_
      refine zv_iald dX11_place_26 (zta_11_3 hT hp0) (ztl_11_3 hT hp0) (by decide) ?_
      refine zv_bipush (z := 10) dX11_place_27 (by decide) ?_
      refine zv_icmp_ne (tgt := 38) dX11_place_29 (by decide) ?_ ?_
      · refine zv_rload_n dX11_place_38 0 rfl ?_
        refine zg_RX11_52 dX11_place_39 hp0 ?_
        refine zv_rload_n dX11_place_42 0 rfl ?_
        refine zg_RX11_19 dX11_place_43 hp0 ?_
        refine zv_iconst (z := 0) dX11_place_46 ?_
        refine zv_iald dX11_place_47 (zta_11_3 hT hp0) (ztl_11_3 hT hp0) (by decide) ?_
        refine zv_iload_n dX11_place_48 1 rfl ?_
        refine zv_iast dX11_place_49 (zta_11_14 hT hp0) (ztl_11_14 hT hp0) (by decide) (fun M5 => ?_)
        refine zv_rload_n dX11_place_50 0 rfl ?_
        refine zg_RX11_19 dX11_place_51 hp0 ?_
        refine zv_iconst (z := 0) dX11_place_54 ?_
        refine zv_dup2 dX11_place_55 rfl rfl ?_
        refine zv_iald dX11_place_56 (zta_11_3 hT hp0) (ztl_11_3 hT hp0) (by decide) ?_
        refine zv_iconst (z := 1) dX11_place_57 ?_
        refine zv_iadd dX11_place_58 ?_
        refine zv_iast dX11_place_59 (zta_11_3 hT hp0) (ztl_11_3 hT hp0) (by decide) (fun M6 => ?_)
        refine zv_rload_n dX11_place_60 0 rfl ?_
        refine zg_RX11_19 dX11_place_61 hp0 ?_
        refine zv_iconst (z := 0) dX11_place_64 ?_
        refine zv_iald dX11_place_65 (zta_11_3 hT hp0) (ztl_11_3 hT hp0) (by decide) ?_
        refine zv_iconst (z := 1) dX11_place_66 ?_
        refine zv_isub dX11_place_67 ?_
        exact zv_ret (fun h => h) (zv_iret dX11_place_68)
      refine zv_rload_n dX11_place_32 0 rfl ?_
      refine zv_iconst (z := 1) dX11_place_33 ?_
      refine (zv_callVi [iv 1] (c_X11_refuses κ.2.1 hw p0 1 M0 hp0) zmd_X11_refuses zwI_X11_refuses zwS_X11_refuses zwM_RX11_175 zcd_11 hp0 rfl (by decide) rfl (Nat.le_of_ble_eq_true rfl) dX11_place_34 (fun M8 v7 _ => ?_))
      exact zv_ret (fun h => h) (zv_iret dX11_place_37)
    exact zv_sub (L' := [(0, rn w p0)]) [0] rfl (zv_exit (fun h => h))
  refine zv_rload_n dX11_place_15 0 rfl ?_
  refine zv_iconst (z := 0) dX11_place_16 ?_
  refine (zv_callVi [iv 0] (c_X11_refuses κ.2.1 hw p0 0 M9 hp0) zmd_X11_refuses zwI_X11_refuses zwS_X11_refuses zwM_RX11_175 zcd_11 hp0 rfl (by decide) rfl (Nat.le_of_ble_eq_true rfl) dX11_place_17 (fun M11 v10 _ => ?_))
  exact zv_ret (fun h => h) (zv_iret dX11_place_20)
def fb_X11_rest_35 (k : zK)  (l0 : Nat) (l2 : Int) (l3 : Int) (l4 : Int) (y5 : Int) (y6 : Int) (y7 : Int) (M0 : zM) : Option ((Int × Int × Int × zM) ⊕ (Int × Int × zM)) :=
  zbr y7 256 (256 ≤ y7) (some (.inr (y5, y6, M0))) (zgd (0 ≤ y7 ∧ y7 < 256) (zsp4 (zbr (M0 (zfr k l0 55) y7.toNat) 0 (M0 (zfr k l0 55) y7.toNat = 0) (some (.inl (y5, y6, y7, M0))) (zb1 (f_X11_isGone k l0 y7 l2 l3 M0) (fun v6 => zbr v6 0 (¬ v6 = 0) (some (.inl (y5, y6, y7, M0))) (zgd (((1 : Int) = 0 ∨ (1 : Int) = 1) ∧ 0 ≤ y7 ∧ y7 < 256) (zlt (zst M0 (zfr k l0 65) y7.toNat (1)) (fun M8 => zgd (0 ≤ y7 ∧ y7 < 256) (zb1 (zbr (M8 (zfr k l0 65) y7.toNat) 0 (M8 (zfr k l0 65) y7.toNat = 0) (some (0)) (some (1))) (fun x9 => zlt (y5 + x9) (fun x10 => zgd (0 ≤ y7 ∧ y7 < 256) (zsp1 (zbr (M8 (zfr k l0 55) y7.toNat) 0 (M8 (zfr k l0 55) y7.toNat = 0) (some (.inl y7)) (zgd (0 ≤ y7 ∧ y7 < 256) (zbr (M8 (zfr k l0 65) y7.toNat) 0 (¬ M8 (zfr k l0 65) y7.toNat = 0) (some (.inl y7)) (zlt (y6 + 1) (fun x11 => zlt (y7 + 1) (fun x12 => some (.inr (.inr (.inl (x10, x11, x12, M8)))))))))) (fun r => some r) (fun x13 => zlt (y6 + 0) (fun x14 => zlt (x13 + 1) (fun x15 => some (.inr (.inl (x10, x14, x15, M8)))))))))))))))) (fun r => some r) (fun x16 x17 x18 M19 => zgd (((0 : Int) = 0 ∨ (0 : Int) = 1) ∧ 0 ≤ y7 ∧ y7 < 256) (zlt (zst M19 (zfr k l0 65) y7.toNat (0)) (fun M20 => zgd (0 ≤ x18 ∧ x18 < 256) (zb1 (zbr (M20 (zfr k l0 65) x18.toNat) 0 (M20 (zfr k l0 65) x18.toNat = 0) (some (0)) (some (1))) (fun x21 => zlt (x16 + x21) (fun x22 => zgd (0 ≤ x18 ∧ x18 < 256) (zsp1 (zbr (M20 (zfr k l0 55) x18.toNat) 0 (M20 (zfr k l0 55) x18.toNat = 0) (some (.inl x18)) (zgd (0 ≤ x18 ∧ x18 < 256) (zbr (M20 (zfr k l0 65) x18.toNat) 0 (¬ M20 (zfr k l0 65) x18.toNat = 0) (some (.inl x18)) (zlt (x17 + 1) (fun x23 => zlt (x18 + 1) (fun x24 => some (.inr (.inl (x22, x23, x24, M20))))))))) (fun r => some r) (fun x25 => zlt (x17 + 0) (fun x26 => zlt (x25 + 1) (fun x27 => some (.inl (x22, x26, x27, M20))))))))))))))
def fb_X11_rest_161 (k : zK)  (l0 : Nat) (y7 : Int) (y8 : Int) (M0 : zM) : Option ((Int × Int × zM) ⊕ (Int × zM)) :=
  zbr y8 256 (256 ≤ y8) (some (.inr (y7, M0))) (zgd (0 ≤ y8 ∧ y8 < 256) (zbr (M0 (zfr k l0 65) y8.toNat) 0 (M0 (zfr k l0 65) y8.toNat = 0) (zlt (y8 + 1) (fun x32 => some (.inl (y7, x32, M0)))) (zgd (0 ≤ y8 ∧ y8 < 256) (zbr (M0 (zfr k l0 56) y8.toNat) 0 (M0 (zfr k l0 56) y8.toNat = 0) (zbd (f_X11_spread k l0 y8 (zfr k l0 65) M0) (fun M34 v33 => zbr v33 0 (v33 ≤ 0) (zlt (y7 + 0) (fun x35 => zlt (y8 + 1) (fun x36 => some (.inl (x35, x36, M34))))) (zlt (y7 + 1) (fun x37 => zlt (y8 + 1) (fun x38 => some (.inl (x37, x38, M34))))))) (zlt (y8 + 1) (fun x39 => some (.inl (y7, x39, M0))))))))
def f_X11_rest (k : zK)  (p0 : Nat) (p1 : Int) (p2 : Int) (p3 : Int) (p4 : Int) (M0 : zM) : Option (zM × Int) :=
  zb1 (f_X11_isWave k p1 p2 p3 M0) (fun v1 => zbr v1 0 (v1 = 0) (some (M0, (-1))) (zb1 (f_X11_within k p4 0 2 M0) (fun v3 => zbr v3 0 (¬ v3 = 0) (zb1 (f_X11_finds k p0 p1 M0) (fun M5 => zb3 (zw4 (fb_X11_rest_35 k p0 p2 p3 p4) zfu 0 0 0 M5) (fun x28 x29 M30 => zbr p4 1 (p4 = 1) (zb1 (f_X11_unsees k p0 M30) (fun M31 => zb2 (zw3 (fb_X11_rest_161 k p0) zfu 0 0 M31) (fun x40 M41 => some (M41, x40)))) (zbr p4 0 (¬ p4 = 0) (some (M30, x29)) (some (M30, x28)))))) (some (M0, (-1))))))
set_option maxRecDepth 20000 in
theorem vl_X11_rest_35 {κ : zC} {w : zW} (hw : zWk w)  (l0 : Nat) (l2 : Int) (l3 : Int) (l4 : Int) (g0 : ztag w.1 l0 = 12)  (E : (Int × Int × zM) → Prop) (hX : ∀ (u5 : Int) (u6 : Int) (M1 : zM), E (u5, u6, M1) → zB cX11_rest RX11 9 (some .int) κ w (0, 0, 4) 132 [(0, rn w l0), (4, iv l4), (5, iv u5), (6, iv u6)] [] M1)  (y5 : Int) (y6 : Int) (y7 : Int) (M0 : zM) :
    zV cX11_rest RX11 9 (some .int) κ w (0, 0, 4) 35 [(5, iv y5), (6, iv y6), (7, iv y7), (0, rn w l0), (2, iv l2), (3, iv l3), (4, iv l4)] [] M0 (zw4 (fb_X11_rest_35 w.1 l0 l2 l3 l4) zfu y5 y6 y7 M0) E := by
  have hT := hw.1
  refine zv_loop4 (fun y5 y6 y7 M0 => [(5, iv y5), (6, iv y6), (7, iv y7), (0, rn w l0), (2, iv l2), (3, iv l3), (4, iv l4)]) (fun y5 y6 y7 M0 => M0) (fun y5 y6 y7 M0 => ?_) y5 y6 y7 M0
  unfold fb_X11_rest_35
  refine zv_iload dX11_rest_35 2 rfl ?_
  refine zv_sipush (z := 256) dX11_rest_37 (by decide) ?_
  refine zv_icmp_ge (tgt := 132) dX11_rest_40 (by decide) ?_ ?_
  · exact zv_sub (L' := [(0, rn w l0), (4, iv l4), (5, iv y5), (6, iv y6)]) [3, 6, 0, 1] rfl (zv_exit (fun h => hX _ _ _ h))
  refine zv_rload_n dX11_rest_43 3 rfl ?_
  refine zg_RX11_151 dX11_rest_44 g0 ?_
  refine zv_iload dX11_rest_47 2 rfl ?_
  refine zv_rload_n dX11_rest_49 3 rfl ?_
  refine zg_RX11_139 dX11_rest_50 g0 ?_
  refine zv_iload dX11_rest_53 2 rfl ?_
  refine zv_zald dX11_rest_55 (zta_11_55 hT g0) (ztl_11_55 hT g0) (by decide) ?_
  refine zv_joinS4 (fun r => r) 74 (fun x16 x17 x18 M19 => [(5, iv x16), (6, iv x17), (7, iv x18), (0, rn w l0), (2, iv l2), (3, iv l3), (4, iv l4)]) (fun x16 x17 x18 M19 => [iv y7, rn w (zfr w.1 l0 65)]) (fun x16 x17 x18 M19 => M19) ?_ (fun x16 x17 x18 M19 => ?_)
  · refine zv_if_eq (tgt := 74) dX11_rest_56 (by decide) ?_ ?_
    · exact zv_sub (L' := [(5, iv y5), (6, iv y6), (7, iv y7), (0, rn w l0), (2, iv l2), (3, iv l3), (4, iv l4)]) [0, 1, 2, 3, 4, 5, 6] rfl (zv_exit (fun h => h))
    refine zv_rload_n dX11_rest_59 3 rfl ?_
    refine zv_iload dX11_rest_60 2 rfl ?_
    refine zv_iload_n dX11_rest_62 4 rfl ?_
    refine zv_iload_n dX11_rest_63 5 rfl ?_
    refine zv_pc (zv_callVi [iv y7, iv l2, iv l3] (c_X11_isGone κ.2.1 hw l0 y7 l2 l3 M0 g0) zmd_X11_isGone zwI_X11_isGone zwS_X11_isGone zwM_RX11_456 zcd_11 g0 rfl (by decide) rfl (Nat.le_of_ble_eq_true rfl) dX11_rest_64 (fun mh7 v6 h7 => ?_))
    obtain rfl := zpuE h7
    refine zv_if_ne (tgt := 74) dX11_rest_67 (by decide) ?_ ?_
    · exact zv_sub (L' := [(5, iv y5), (6, iv y6), (7, iv y7), (0, rn w l0), (2, iv l2), (3, iv l3), (4, iv l4)]) [0, 1, 2, 3, 4, 5, 6] rfl (zv_exit (fun h => h))
    refine zv_iconst (z := 1) dX11_rest_70 ?_
    refine zv_goto (tgt := 75) dX11_rest_71 (by decide) ?_
    refine zv_zast dX11_rest_75 (zta_11_65 hT g0) (ztl_11_65 hT g0) (by decide) (fun M8 => ?_)
    refine zv_iload dX11_rest_76 0 rfl ?_
    refine zv_rload_n dX11_rest_78 3 rfl ?_
    refine zg_RX11_151 dX11_rest_79 g0 ?_
    refine zv_iload dX11_rest_82 2 rfl ?_
    refine zv_zald dX11_rest_84 (zta_11_65 hT g0) (ztl_11_65 hT g0) (by decide) ?_
    refine zv_join1 93 (fun x9 => [(6, iv y6), (7, iv y7), (0, rn w l0), (2, iv l2), (3, iv l3), (4, iv l4)]) (fun x9 => [iv x9, iv y5]) (fun x9 => M8) ?_ (fun x9 => ?_)
    · refine zv_if_eq (tgt := 92) dX11_rest_85 (by decide) ?_ ?_
      · refine zv_iconst (z := 0) dX11_rest_92 ?_
        exact zv_sub (L' := [(6, iv y6), (7, iv y7), (0, rn w l0), (2, iv l2), (3, iv l3), (4, iv l4)]) [1, 2, 3, 4, 5, 6] rfl (zv_exit (fun h => h))
      refine zv_iconst (z := 1) dX11_rest_88 ?_
      refine zv_goto (tgt := 93) dX11_rest_89 (by decide) ?_
      exact zv_sub (L' := [(6, iv y6), (7, iv y7), (0, rn w l0), (2, iv l2), (3, iv l3), (4, iv l4)]) [1, 2, 3, 4, 5, 6] rfl (zv_exit (fun h => h))
    refine zv_iadd dX11_rest_93 ?_
    refine zv_istore dX11_rest_94 (fun x10 => [(5, iv x10), (6, iv y6), (7, iv y7), (0, rn w l0), (2, iv l2), (3, iv l3), (4, iv l4)]) (by decide) (fun _ => rfl) (fun x10 => ?_)
    refine zv_iload dX11_rest_96 1 rfl ?_
    refine zv_rload_n dX11_rest_98 3 rfl ?_
    refine zg_RX11_139 dX11_rest_99 g0 ?_
    refine zv_iload dX11_rest_102 2 rfl ?_
    refine zv_zald dX11_rest_104 (zta_11_55 hT g0) (ztl_11_55 hT g0) (by decide) ?_
    refine zv_joinS1 (fun r => r) 122 (fun x13 => [(7, iv x13), (5, iv x10), (0, rn w l0), (2, iv l2), (3, iv l3), (4, iv l4)]) (fun x13 => [iv y6]) (fun x13 => M8) ?_ (fun x13 => ?_)
    · refine zv_if_eq (tgt := 122) dX11_rest_105 (by decide) ?_ ?_
      · exact zv_sub (L' := [(7, iv y7), (5, iv x10), (0, rn w l0), (2, iv l2), (3, iv l3), (4, iv l4)]) [2, 0, 3, 4, 5, 6] rfl (zv_exit (fun h => h))
      refine zv_rload_n dX11_rest_108 3 rfl ?_
      refine zg_RX11_151 dX11_rest_109 g0 ?_
      refine zv_iload dX11_rest_112 2 rfl ?_
      refine zv_zald dX11_rest_114 (zta_11_65 hT g0) (ztl_11_65 hT g0) (by decide) ?_
      refine zv_if_ne (tgt := 122) dX11_rest_115 (by decide) ?_ ?_
      · exact zv_sub (L' := [(7, iv y7), (5, iv x10), (0, rn w l0), (2, iv l2), (3, iv l3), (4, iv l4)]) [2, 0, 3, 4, 5, 6] rfl (zv_exit (fun h => h))
      refine zv_iconst (z := 1) dX11_rest_118 ?_
      refine zv_goto (tgt := 123) dX11_rest_119 (by decide) ?_
      refine zv_iadd dX11_rest_123 ?_
      refine zv_istore dX11_rest_124 (fun x11 => [(6, iv x11), (5, iv x10), (7, iv y7), (0, rn w l0), (2, iv l2), (3, iv l3), (4, iv l4)]) (by decide) (fun _ => rfl) (fun x11 => ?_)
      refine zv_iinc dX11_rest_126 2 rfl (fun x12 => [(7, iv x12), (6, iv x11), (5, iv x10), (0, rn w l0), (2, iv l2), (3, iv l3), (4, iv l4)]) (by decide) (fun _ => rfl) (fun x12 => ?_)
      refine zv_goto (tgt := 35) dX11_rest_129 (by decide) ?_
      exact zv_sub (L' := [(5, iv x10), (6, iv x11), (7, iv x12), (0, rn w l0), (2, iv l2), (3, iv l3), (4, iv l4)]) [2, 1, 0, 3, 4, 5, 6] rfl (zv_exit (fun h => h))
    refine zv_iconst (z := 0) dX11_rest_122 ?_
    refine zv_iadd dX11_rest_123 ?_
    refine zv_istore dX11_rest_124 (fun x14 => [(6, iv x14), (7, iv x13), (5, iv x10), (0, rn w l0), (2, iv l2), (3, iv l3), (4, iv l4)]) (by decide) (fun _ => rfl) (fun x14 => ?_)
    refine zv_iinc dX11_rest_126 1 rfl (fun x15 => [(7, iv x15), (6, iv x14), (5, iv x10), (0, rn w l0), (2, iv l2), (3, iv l3), (4, iv l4)]) (by decide) (fun _ => rfl) (fun x15 => ?_)
    refine zv_goto (tgt := 35) dX11_rest_129 (by decide) ?_
    exact zv_sub (L' := [(5, iv x10), (6, iv x14), (7, iv x15), (0, rn w l0), (2, iv l2), (3, iv l3), (4, iv l4)]) [2, 1, 0, 3, 4, 5, 6] rfl (zv_exit (fun h => h))
  refine zv_iconst (z := 0) dX11_rest_74 ?_
  refine zv_zast dX11_rest_75 (zta_11_65 hT g0) (ztl_11_65 hT g0) (by decide) (fun M20 => ?_)
  refine zv_iload dX11_rest_76 0 rfl ?_
  refine zv_rload_n dX11_rest_78 3 rfl ?_
  refine zg_RX11_151 dX11_rest_79 g0 ?_
  refine zv_iload dX11_rest_82 2 rfl ?_
  refine zv_zald dX11_rest_84 (zta_11_65 hT g0) (ztl_11_65 hT g0) (by decide) ?_
  refine zv_join1 93 (fun x21 => [(6, iv x17), (7, iv x18), (0, rn w l0), (2, iv l2), (3, iv l3), (4, iv l4)]) (fun x21 => [iv x21, iv x16]) (fun x21 => M20) ?_ (fun x21 => ?_)
  · refine zv_if_eq (tgt := 92) dX11_rest_85 (by decide) ?_ ?_
    · refine zv_iconst (z := 0) dX11_rest_92 ?_
      exact zv_sub (L' := [(6, iv x17), (7, iv x18), (0, rn w l0), (2, iv l2), (3, iv l3), (4, iv l4)]) [1, 2, 3, 4, 5, 6] rfl (zv_exit (fun h => h))
    refine zv_iconst (z := 1) dX11_rest_88 ?_
    refine zv_goto (tgt := 93) dX11_rest_89 (by decide) ?_
    exact zv_sub (L' := [(6, iv x17), (7, iv x18), (0, rn w l0), (2, iv l2), (3, iv l3), (4, iv l4)]) [1, 2, 3, 4, 5, 6] rfl (zv_exit (fun h => h))
  refine zv_iadd dX11_rest_93 ?_
  refine zv_istore dX11_rest_94 (fun x22 => [(5, iv x22), (6, iv x17), (7, iv x18), (0, rn w l0), (2, iv l2), (3, iv l3), (4, iv l4)]) (by decide) (fun _ => rfl) (fun x22 => ?_)
  refine zv_iload dX11_rest_96 1 rfl ?_
  refine zv_rload_n dX11_rest_98 3 rfl ?_
  refine zg_RX11_139 dX11_rest_99 g0 ?_
  refine zv_iload dX11_rest_102 2 rfl ?_
  refine zv_zald dX11_rest_104 (zta_11_55 hT g0) (ztl_11_55 hT g0) (by decide) ?_
  refine zv_joinS1 (fun r => r) 122 (fun x25 => [(7, iv x25), (5, iv x22), (0, rn w l0), (2, iv l2), (3, iv l3), (4, iv l4)]) (fun x25 => [iv x17]) (fun x25 => M20) ?_ (fun x25 => ?_)
  · refine zv_if_eq (tgt := 122) dX11_rest_105 (by decide) ?_ ?_
    · exact zv_sub (L' := [(7, iv x18), (5, iv x22), (0, rn w l0), (2, iv l2), (3, iv l3), (4, iv l4)]) [2, 0, 3, 4, 5, 6] rfl (zv_exit (fun h => h))
    refine zv_rload_n dX11_rest_108 3 rfl ?_
    refine zg_RX11_151 dX11_rest_109 g0 ?_
    refine zv_iload dX11_rest_112 2 rfl ?_
    refine zv_zald dX11_rest_114 (zta_11_65 hT g0) (ztl_11_65 hT g0) (by decide) ?_
    refine zv_if_ne (tgt := 122) dX11_rest_115 (by decide) ?_ ?_
    · exact zv_sub (L' := [(7, iv x18), (5, iv x22), (0, rn w l0), (2, iv l2), (3, iv l3), (4, iv l4)]) [2, 0, 3, 4, 5, 6] rfl (zv_exit (fun h => h))
    refine zv_iconst (z := 1) dX11_rest_118 ?_
    refine zv_goto (tgt := 123) dX11_rest_119 (by decide) ?_
    refine zv_iadd dX11_rest_123 ?_
    refine zv_istore dX11_rest_124 (fun x23 => [(6, iv x23), (5, iv x22), (7, iv x18), (0, rn w l0), (2, iv l2), (3, iv l3), (4, iv l4)]) (by decide) (fun _ => rfl) (fun x23 => ?_)
    refine zv_iinc dX11_rest_126 2 rfl (fun x24 => [(7, iv x24), (6, iv x23), (5, iv x22), (0, rn w l0), (2, iv l2), (3, iv l3), (4, iv l4)]) (by decide) (fun _ => rfl) (fun x24 => ?_)
    refine zv_goto (tgt := 35) dX11_rest_129 (by decide) ?_
    exact zv_sub (L' := [(5, iv x22), (6, iv x23), (7, iv x24), (0, rn w l0), (2, iv l2), (3, iv l3), (4, iv l4)]) [2, 1, 0, 3, 4, 5, 6] rfl (zv_exit (fun h => h))
  refine zv_iconst (z := 0) dX11_rest_122 ?_
  refine zv_iadd dX11_rest_123 ?_
  refine zv_istore dX11_rest_124 (fun x26 => [(6, iv x26), (7, iv x25), (5, iv x22), (0, rn w l0), (2, iv l2), (3, iv l3), (4, iv l4)]) (by decide) (fun _ => rfl) (fun x26 => ?_)
  refine zv_iinc dX11_rest_126 1 rfl (fun x27 => [(7, iv x27), (6, iv x26), (5, iv x22), (0, rn w l0), (2, iv l2), (3, iv l3), (4, iv l4)]) (by decide) (fun _ => rfl) (fun x27 => ?_)
  refine zv_goto (tgt := 35) dX11_rest_129 (by decide) ?_
  exact zv_sub (L' := [(5, iv x22), (6, iv x26), (7, iv x27), (0, rn w l0), (2, iv l2), (3, iv l3), (4, iv l4)]) [2, 1, 0, 3, 4, 5, 6] rfl (zv_exit (fun h => h))
theorem vl_X11_rest_161 {κ : zC} {w : zW} (hw : zWk w)  (l0 : Nat) (g0 : ztag w.1 l0 = 12)  (E : (Int × zM) → Prop) (hX : ∀ (u7 : Int) (M1 : zM), E (u7, M1) → zB cX11_rest RX11 9 (some .int) κ w (0, 0, 4) 221 [(7, iv u7)] [] M1)  (y7 : Int) (y8 : Int) (M0 : zM) :
    zV cX11_rest RX11 9 (some .int) κ w (0, 0, 4) 161 [(7, iv y7), (8, iv y8), (0, rn w l0)] [] M0 (zw3 (fb_X11_rest_161 w.1 l0) zfu y7 y8 M0) E := by
  have hT := hw.1
  refine zv_loop3 (fun y7 y8 M0 => [(7, iv y7), (8, iv y8), (0, rn w l0)]) (fun y7 y8 M0 => M0) (fun y7 y8 M0 => ?_) y7 y8 M0
  unfold fb_X11_rest_161
  refine zv_iload dX11_rest_161 1 rfl ?_
  refine zv_sipush (z := 256) dX11_rest_163 (by decide) ?_
  refine zv_icmp_ge (tgt := 221) dX11_rest_166 (by decide) ?_ ?_
  · exact zv_sub (L' := [(7, iv y7)]) [0] rfl (zv_exit (fun h => hX _ _ h))
  refine zv_rload_n dX11_rest_169 2 rfl ?_
  refine zg_RX11_151 dX11_rest_170 g0 ?_
  refine zv_iload dX11_rest_173 1 rfl ?_
  refine zv_zald dX11_rest_175 (zta_11_65 hT g0) (ztl_11_65 hT g0) (by decide) ?_
  refine zv_if_eq (tgt := 215) dX11_rest_176 (by decide) ?_ ?_
  · refine zv_iinc dX11_rest_215 1 rfl (fun x32 => [(8, iv x32), (7, iv y7), (0, rn w l0)]) (by decide) (fun _ => rfl) (fun x32 => ?_)
    refine zv_goto (tgt := 161) dX11_rest_218 (by decide) ?_
    exact zv_sub (L' := [(7, iv y7), (8, iv x32), (0, rn w l0)]) [1, 0, 2] rfl (zv_exit (fun h => h))
  refine zv_rload_n dX11_rest_179 2 rfl ?_
  refine zg_RX11_142 dX11_rest_180 g0 ?_
  refine zv_iload dX11_rest_183 1 rfl ?_
  refine zv_zald dX11_rest_185 (zta_11_56 hT g0) (ztl_11_56 hT g0) (by decide) ?_
  refine zv_if_eq (tgt := 192) dX11_rest_186 (by decide) ?_ ?_
  · refine zv_iload dX11_rest_192 0 rfl ?_
    refine zv_rload_n dX11_rest_194 2 rfl ?_
    refine zv_iload dX11_rest_195 1 rfl ?_
    refine zv_rload_n dX11_rest_197 2 rfl ?_
    refine zg_RX11_151 dX11_rest_198 g0 ?_
    refine (zv_callVi [iv y8, rn w (zfr w.1 l0 65)] (c_X11_spread κ.2.1 hw l0 y8 (zfr w.1 l0 65) M0 g0 (zta_11_65 hT g0) (ztl_11_65 hT g0)) zmd_X11_spread zwI_X11_spread zwS_X11_spread zwM_RX11_371 zcd_11 g0 rfl (by decide) rfl (Nat.le_of_ble_eq_true rfl) dX11_rest_201 (fun M34 v33 _ => ?_))
    refine zv_if_le (tgt := 211) dX11_rest_204 (by decide) ?_ ?_
    · refine zv_iconst (z := 0) dX11_rest_211 ?_
      refine zv_iadd dX11_rest_212 ?_
      refine zv_istore dX11_rest_213 (fun x35 => [(7, iv x35), (8, iv y8), (0, rn w l0)]) (by decide) (fun _ => rfl) (fun x35 => ?_)
      refine zv_iinc dX11_rest_215 1 rfl (fun x36 => [(8, iv x36), (7, iv x35), (0, rn w l0)]) (by decide) (fun _ => rfl) (fun x36 => ?_)
      refine zv_goto (tgt := 161) dX11_rest_218 (by decide) ?_
      exact zv_sub (L' := [(7, iv x35), (8, iv x36), (0, rn w l0)]) [1, 0, 2] rfl (zv_exit (fun h => h))
    refine zv_iconst (z := 1) dX11_rest_207 ?_
    refine zv_goto (tgt := 212) dX11_rest_208 (by decide) ?_
    refine zv_iadd dX11_rest_212 ?_
    refine zv_istore dX11_rest_213 (fun x37 => [(7, iv x37), (8, iv y8), (0, rn w l0)]) (by decide) (fun _ => rfl) (fun x37 => ?_)
    refine zv_iinc dX11_rest_215 1 rfl (fun x38 => [(8, iv x38), (7, iv x37), (0, rn w l0)]) (by decide) (fun _ => rfl) (fun x38 => ?_)
    refine zv_goto (tgt := 161) dX11_rest_218 (by decide) ?_
    exact zv_sub (L' := [(7, iv x37), (8, iv x38), (0, rn w l0)]) [1, 0, 2] rfl (zv_exit (fun h => h))
  refine zv_goto (tgt := 215) dX11_rest_189 (by decide) ?_
  refine zv_iinc dX11_rest_215 1 rfl (fun x39 => [(8, iv x39), (7, iv y7), (0, rn w l0)]) (by decide) (fun _ => rfl) (fun x39 => ?_)
  refine zv_goto (tgt := 161) dX11_rest_218 (by decide) ?_
  exact zv_sub (L' := [(7, iv y7), (8, iv x39), (0, rn w l0)]) [1, 0, 2] rfl (zv_exit (fun h => h))
theorem c_X11_rest (l : Launch) {w : zW} (hw : zWk w)  (p0 : Nat) (p1 : Int) (p2 : Int) (p3 : Int) (p4 : Int) (M0 : zM) (hp0 : ztag w.1 p0 = 12) : zCn l yX11_rest cX11_rest 9 (some .int) (4) 1 w [rn w p0, iv p1, iv p2, iv p3, iv p4] M0 (f_X11_rest w.1 p0 p1 p2 p3 p4 M0) := by
  have hT := hw.1
  refine zCn_of (own := RX11) (by decide) rfl hw (Nat.le_of_ble_eq_true rfl) [(0, rn w p0), (1, iv p1), (2, iv p2), (3, iv p3), (4, iv p4)] rfl ?_
  intro κ hl
  subst hl
  unfold f_X11_rest
  refine zv_iload_n dX11_rest_0 1 rfl ?_
  refine zv_iload_n dX11_rest_1 2 rfl ?_
  refine zv_iload_n dX11_rest_2 3 rfl ?_
  refine zv_pc (zv_callSi [iv p1, iv p2, iv p3] (c_X11_isWave κ.2.1 hw p1 p2 p3 M0 ) zmd_X11_isWave zwT_X11_isWave zwM_RX11_453 rfl (by decide) rfl (Nat.le_of_ble_eq_true rfl) dX11_rest_3 (fun mh2 v1 h2 => ?_))
  obtain rfl := zpuE h2
  refine zv_if_eq (tgt := 19) dX11_rest_6 (by decide) ?_ ?_
  · refine zv_iconst (z := (-1)) dX11_rest_19 ?_
    exact zv_ret (fun h => h) (zv_iret dX11_rest_20)
  refine zv_iload dX11_rest_9 4 rfl ?_
  refine zv_iconst (z := 0) dX11_rest_11 ?_
  refine zv_iconst (z := 2) dX11_rest_12 ?_
  refine zv_pc (zv_callSi [iv p4, iv 0, iv 2] (c_X11_within κ.2.1 hw p4 0 2 M0 ) zmd_X11_within zwT_X11_within zwM_RX11_183 rfl (by decide) rfl (Nat.le_of_ble_eq_true rfl) dX11_rest_13 (fun mh4 v3 h4 => ?_))
  obtain rfl := zpuE h4
  refine zv_if_ne (tgt := 21) dX11_rest_16 (by decide) ?_ ?_
  · refine zv_rload_n dX11_rest_21 0 rfl ?_
    refine zv_iload_n dX11_rest_22 1 rfl ?_
    refine zv_vc (zv_callVv [iv p1] (c_X11_finds κ.2.1 hw p0 p1 M0 hp0) zmd_X11_finds zwI_X11_finds zwS_X11_finds zwM_RX11_385 zcd_11 hp0 rfl (by decide) rfl (Nat.le_of_ble_eq_true rfl) dX11_rest_23 (fun M5 _ _ => ?_))
    refine zv_iconst (z := 0) dX11_rest_26 ?_
    refine zv_istore_p (L' := [(5, iv 0), (0, rn w p0), (1, iv p1), (2, iv p2), (3, iv p3), (4, iv p4)]) dX11_rest_27 (by decide) rfl ?_
    refine zv_iconst (z := 0) dX11_rest_29 ?_
    refine zv_istore_p (L' := [(6, iv 0), (5, iv 0), (0, rn w p0), (1, iv p1), (2, iv p2), (3, iv p3), (4, iv p4)]) dX11_rest_30 (by decide) rfl ?_
    refine zv_iconst (z := 0) dX11_rest_32 ?_
    refine zv_istore_p (L' := [(7, iv 0), (6, iv 0), (5, iv 0), (0, rn w p0), (1, iv p1), (2, iv p2), (3, iv p3), (4, iv p4)]) dX11_rest_33 (by decide) rfl ?_
    refine zv_join3 132 (fun x28 x29 M30 => [(0, rn w p0), (4, iv p4), (5, iv x28), (6, iv x29)]) (fun x28 x29 M30 => []) (fun x28 x29 M30 => M30) (zv_sub (L' := [(5, iv 0), (6, iv 0), (7, iv 0), (0, rn w p0), (2, iv p2), (3, iv p3), (4, iv p4)]) [2, 1, 0, 3, 5, 6, 7] rfl (vl_X11_rest_35 hw p0 p2 p3 p4 hp0 _ (fun _ _ _ h => h) 0 0 0 M5)) (fun x28 x29 M30 => ?_)
    refine zv_iload dX11_rest_132 1 rfl ?_
    refine zv_iconst (z := 1) dX11_rest_134 ?_
    refine zv_icmp_eq (tgt := 151) dX11_rest_135 (by decide) ?_ ?_
    · refine zv_rload_n dX11_rest_151 0 rfl ?_
      refine zv_vc (zv_callVv [] (c_X11_unsees κ.2.1 hw p0 M30 hp0) zmd_X11_unsees zwI_X11_unsees zwS_X11_unsees zwM_RX11_368 zcd_11 hp0 rfl (by decide) rfl (Nat.le_of_ble_eq_true rfl) dX11_rest_152 (fun M31 _ _ => ?_))
      refine zv_iconst (z := 0) dX11_rest_155 ?_
      refine zv_istore_p (L' := [(7, iv 0), (0, rn w p0), (4, iv p4), (5, iv x28), (6, iv x29)]) dX11_rest_156 (by decide) rfl ?_
      refine zv_iconst (z := 0) dX11_rest_158 ?_
      refine zv_istore_p (L' := [(8, iv 0), (7, iv 0), (0, rn w p0), (4, iv p4), (5, iv x28), (6, iv x29)]) dX11_rest_159 (by decide) rfl ?_
      refine zv_join2 221 (fun x40 M41 => [(7, iv x40)]) (fun x40 M41 => []) (fun x40 M41 => M41) (zv_sub (L' := [(7, iv 0), (8, iv 0), (0, rn w p0)]) [1, 0, 2] rfl (vl_X11_rest_161 hw p0 hp0 _ (fun _ _ h => h) 0 0 M31)) (fun x40 M41 => ?_)
      refine zv_iload dX11_rest_221 0 rfl ?_
      exact zv_ret (fun h => h) (zv_iret dX11_rest_223)
    refine zv_iload dX11_rest_138 1 rfl ?_
    refine zv_if_ne (tgt := 148) dX11_rest_140 (by decide) ?_ ?_
    · refine zv_iload dX11_rest_148 3 rfl ?_
      exact zv_ret (fun h => h) (zv_iret dX11_rest_150)
    refine zv_iload dX11_rest_143 2 rfl ?_
    refine zv_goto (tgt := 150) dX11_rest_145 (by decide) ?_
    exact zv_ret (fun h => h) (zv_iret dX11_rest_150)
  refine zv_iconst (z := (-1)) dX11_rest_19 ?_
  exact zv_ret (fun h => h) (zv_iret dX11_rest_20)
def f_X11_restore (k : zK)  (p0 : Nat) (p1 : Int) (M0 : zM) : Option (zM × Int) :=
  zb1 (f_X11_within k p1 0 ((M0 p0 20) - 1) M0) (fun v1 => zbr v1 0 (¬ v1 = 0) (zb1 (f_X11_copies k p0 (p1 + 1) 0 M0) (fun M3 => some (M3, 1))) (zbd (f_X11_isNot k p0 M0) (fun M5 v4 => zgd (v4 = 0 ∨ v4 = 1) (some (M5, v4)))))
theorem c_X11_restore (l : Launch) {w : zW} (hw : zWk w)  (p0 : Nat) (p1 : Int) (M0 : zM) (hp0 : ztag w.1 p0 = 12) : zCn l yX11_restore cX11_restore 2 (some .boolean) (1) 1 w [rn w p0, iv p1] M0 (f_X11_restore w.1 p0 p1 M0) := by
  have hT := hw.1
  refine zCn_of (own := RX11) (by decide) rfl hw (Nat.le_of_ble_eq_true rfl) [(0, rn w p0), (1, iv p1)] rfl ?_
  intro κ hl
  subst hl
  unfold f_X11_restore
  refine zv_iload_n dX11_restore_0 1 rfl ?_
  refine zv_iconst (z := 0) dX11_restore_1 ?_
  refine zv_rload_n dX11_restore_2 0 rfl ?_
  refine zg_RX11_172 dX11_restore_3 hp0 ?_
  refine zv_iconst (z := 1) dX11_restore_6 ?_
  refine zv_isub dX11_restore_7 ?_
  refine zv_pc (zv_callSi [iv p1, iv 0, iv ((M0 p0 20) - 1)] (c_X11_within κ.2.1 hw p1 0 ((M0 p0 20) - 1) M0 ) zmd_X11_within zwT_X11_within zwM_RX11_183 rfl (by decide) rfl (Nat.le_of_ble_eq_true rfl) dX11_restore_8 (fun mh2 v1 h2 => ?_))
  obtain rfl := zpuE h2
  refine zv_if_ne (tgt := 19) dX11_restore_11 (by decide) ?_ ?_
  · refine zv_rload_n dX11_restore_19 0 rfl ?_
    refine zv_iload_n dX11_restore_20 1 rfl ?_
    refine zv_iconst (z := 1) dX11_restore_21 ?_
    refine zv_iadd dX11_restore_22 ?_
    refine zv_iconst (z := 0) dX11_restore_23 ?_
    refine zv_vc (zv_callVv [iv (p1 + 1), iv 0] (c_X11_copies κ.2.1 hw p0 (p1 + 1) 0 M0 hp0) zmd_X11_copies zwI_X11_copies zwS_X11_copies zwM_RX11_179 zcd_11 hp0 rfl (by decide) rfl (Nat.le_of_ble_eq_true rfl) dX11_restore_24 (fun M3 _ _ => ?_))
    refine zv_iconst (z := 1) dX11_restore_27 ?_
    exact zv_ret (fun h => h) (zv_zrB (by decide) dX11_restore_28)
  refine zv_rload_n dX11_restore_14 0 rfl ?_
  refine (zv_callVi [] (c_X11_isNot κ.2.1 hw p0 M0 hp0) zmd_X11_isNot zwI_X11_isNot zwS_X11_isNot zwM_RX11_187 zcd_11 hp0 rfl (by decide) rfl (Nat.le_of_ble_eq_true rfl) dX11_restore_15 (fun M5 v4 _ => ?_))
  exact zv_gd (fun hg => zv_ret (fun h => h) (zv_zrB hg dX11_restore_18))
def fb_X11_right_43 (k : zK)  (l0 : Nat) (l1 : Int) (l2 : Int) (l3 : Int) (M0 : zM) (y4 : Int) (y6 : Int) (y8 : Int) : Option ((Int × Int × Int) ⊕ (Int × Int)) :=
  zgd (0 ≤ (0 : Int) ∧ (0 : Int) < 4) (zbr y8 (M0 (zfr k l0 2) (Int.toNat 0)) (M0 (zfr k l0 2) (Int.toNat 0) ≤ y8) (some (.inr (y4, y6))) (zgd (0 ≤ y8 ∧ y8 < 240) (zbr (M0 (zfr k l0 11) y8.toNat) 0 (M0 (zfr k l0 11) y8.toNat = 0) (zlt (y6 + 1) (fun x8 => zgd (0 ≤ y8 ∧ y8 < 240) (zb1 (f_X11_quarterOf k (M0 (zfr k l0 10) y8.toNat) M0) (fun v9 => zbr v9 l1 (¬ v9 = l1) (zlt (y4 + 0) (fun x11 => zlt (y8 + 1) (fun x12 => some (.inl (x11, x8, x12))))) (zlt (y4 + 1) (fun x13 => zlt (y8 + 1) (fun x14 => some (.inl (x13, x8, x14))))))))) (zlt (y8 + 1) (fun x15 => some (.inl (y4, y6, x15)))))))
def f_X11_right (k : zK)  (p0 : Nat) (p1 : Int) (p2 : Int) (p3 : Int) (M0 : zM) : Option (zM × Int) :=
  zb1 (f_X11_within k p1 0 3 M0) (fun v1 => zbr v1 0 (v1 = 0) (some (M0, (-1))) (zb1 (f_X11_isAge k p2 M0) (fun v3 => zbr v3 0 (v3 = 0) (some (M0, (-1))) (zb1 (f_X11_within k p3 0 1 M0) (fun v5 => zbr v5 0 (¬ v5 = 0) (zb1 (f_X11_finds k p0 p2 M0) (fun M7 => zb2 (zw3 (fb_X11_right_43 k p0 p1 p2 p3 M7) zfu 0 0 0) (fun x16 x17 => zbd (f_X11_leanOf k p0 p1 p2 M7) (fun M19 v18 => zgd (zr v18) (zbl v18 0 (v18 = 0) (some (M19, (-1))) (zbl x17 0 (¬ x17 = 0) (zbd (f_X11_leanOf k p0 (-1) p2 M19) (fun M21 v20 => zgd (zr v20) (zb1 (f_X11_lowest k (x16 * v20) (v18 * x17) p3 M21) (fun v22 => some (M21, v22))))) (some (M19, (-1))))))))) (some (M0, (-1))))))))
theorem vl_X11_right_43 {κ : zC} {w : zW} (hw : zWk w)  (l0 : Nat) (l1 : Int) (l2 : Int) (l3 : Int) (g0 : ztag w.1 l0 = 12) (M0 : zM) (E : (Int × Int) → Prop) (hX : ∀ (u4 : Int) (u6 : Int), E (u4, u6) → zB cX11_right RX11 10 (some .long) κ w (0, 0, 4) 103 [(0, rn w l0), (1, iv l1), (2, iv l2), (3, iv l3), (4, jv u4), (6, jv u6)] [] M0)  (y4 : Int) (y6 : Int) (y8 : Int) :
    zV cX11_right RX11 10 (some .long) κ w (0, 0, 4) 43 [(4, jv y4), (6, jv y6), (8, iv y8), (0, rn w l0), (1, iv l1), (2, iv l2), (3, iv l3)] [] M0 (zw3 (fb_X11_right_43 w.1 l0 l1 l2 l3 M0) zfu y4 y6 y8) E := by
  have hT := hw.1
  refine zv_loop3 (fun y4 y6 y8 => [(4, jv y4), (6, jv y6), (8, iv y8), (0, rn w l0), (1, iv l1), (2, iv l2), (3, iv l3)]) (fun y4 y6 y8 => M0) (fun y4 y6 y8 => ?_) y4 y6 y8
  unfold fb_X11_right_43
  refine zv_iload dX11_right_43 2 rfl ?_
  refine zv_rload_n dX11_right_45 3 rfl ?_
  refine zg_RX11_16 dX11_right_46 g0 ?_
  refine zv_iconst (z := 0) dX11_right_49 ?_
  refine zv_iald dX11_right_50 (zta_11_2 hT g0) (ztl_11_2 hT g0) (by decide) ?_
  refine zv_icmp_ge (tgt := 103) dX11_right_51 (by decide) ?_ ?_
  · exact zv_sub (L' := [(0, rn w l0), (1, iv l1), (2, iv l2), (3, iv l3), (4, jv y4), (6, jv y6)]) [3, 4, 5, 6, 0, 1] rfl (zv_exit (fun h => hX _ _ h))
  refine zv_rload_n dX11_right_54 3 rfl ?_
  refine zg_RX11_43 dX11_right_55 g0 ?_
  refine zv_iload dX11_right_58 2 rfl ?_
  refine zv_iald dX11_right_60 (zta_11_11 hT g0) (ztl_11_11 hT g0) (by decide) ?_
  refine zv_if_eq (tgt := 67) dX11_right_61 (by decide) ?_ ?_
  · refine zv_lload dX11_right_67 1 rfl ?_
    refine zv_lconst (z := 1) dX11_right_69 (by decide) ?_
    refine zv_ladd dX11_right_70 ?_
    refine zv_lstore dX11_right_71 (fun x8 => [(6, jv x8), (4, jv y4), (8, iv y8), (0, rn w l0), (1, iv l1), (2, iv l2), (3, iv l3)]) (by decide) (fun _ => rfl) (fun x8 => ?_)
    refine zv_lload dX11_right_73 1 rfl ?_
    refine zv_rload_n dX11_right_75 3 rfl ?_
    refine zg_RX11_40 dX11_right_76 g0 ?_
    refine zv_iload dX11_right_79 2 rfl ?_
    refine zv_iald dX11_right_81 (zta_11_10 hT g0) (ztl_11_10 hT g0) (by decide) ?_
    refine zv_pc (zv_callSi [iv (M0 (zfr w.1 l0 10) y8.toNat)] (c_X11_quarterOf κ.2.1 hw (M0 (zfr w.1 l0 10) y8.toNat) M0 ) zmd_X11_quarterOf zwT_X11_quarterOf zwM_RX11_471 rfl (by decide) rfl (Nat.le_of_ble_eq_true rfl) dX11_right_82 (fun mh10 v9 h10 => ?_))
    obtain rfl := zpuE h10
    refine zv_iload_n dX11_right_85 4 rfl ?_
    refine zv_icmp_ne (tgt := 93) dX11_right_86 (by decide) ?_ ?_
    · refine zv_lconst (z := 0) dX11_right_93 (by decide) ?_
      refine zv_ladd dX11_right_94 ?_
      refine zv_lstore dX11_right_95 (fun x11 => [(4, jv x11), (6, jv x8), (8, iv y8), (0, rn w l0), (1, iv l1), (2, iv l2), (3, iv l3)]) (by decide) (fun _ => rfl) (fun x11 => ?_)
      refine zv_iinc dX11_right_97 2 rfl (fun x12 => [(8, iv x12), (4, jv x11), (6, jv x8), (0, rn w l0), (1, iv l1), (2, iv l2), (3, iv l3)]) (by decide) (fun _ => rfl) (fun x12 => ?_)
      refine zv_goto (tgt := 43) dX11_right_100 (by decide) ?_
      exact zv_sub (L' := [(4, jv x11), (6, jv x8), (8, iv x12), (0, rn w l0), (1, iv l1), (2, iv l2), (3, iv l3)]) [1, 2, 0, 3, 4, 5, 6] rfl (zv_exit (fun h => h))
    refine zv_lconst (z := 1) dX11_right_89 (by decide) ?_
    refine zv_goto (tgt := 94) dX11_right_90 (by decide) ?_
    refine zv_ladd dX11_right_94 ?_
    refine zv_lstore dX11_right_95 (fun x13 => [(4, jv x13), (6, jv x8), (8, iv y8), (0, rn w l0), (1, iv l1), (2, iv l2), (3, iv l3)]) (by decide) (fun _ => rfl) (fun x13 => ?_)
    refine zv_iinc dX11_right_97 2 rfl (fun x14 => [(8, iv x14), (4, jv x13), (6, jv x8), (0, rn w l0), (1, iv l1), (2, iv l2), (3, iv l3)]) (by decide) (fun _ => rfl) (fun x14 => ?_)
    refine zv_goto (tgt := 43) dX11_right_100 (by decide) ?_
    exact zv_sub (L' := [(4, jv x13), (6, jv x8), (8, iv x14), (0, rn w l0), (1, iv l1), (2, iv l2), (3, iv l3)]) [1, 2, 0, 3, 4, 5, 6] rfl (zv_exit (fun h => h))
  refine zv_goto (tgt := 97) dX11_right_64 (by decide) ?_
  refine zv_iinc dX11_right_97 2 rfl (fun x15 => [(8, iv x15), (4, jv y4), (6, jv y6), (0, rn w l0), (1, iv l1), (2, iv l2), (3, iv l3)]) (by decide) (fun _ => rfl) (fun x15 => ?_)
  refine zv_goto (tgt := 43) dX11_right_100 (by decide) ?_
  exact zv_sub (L' := [(4, jv y4), (6, jv y6), (8, iv x15), (0, rn w l0), (1, iv l1), (2, iv l2), (3, iv l3)]) [1, 2, 0, 3, 4, 5, 6] rfl (zv_exit (fun h => h))
set_option maxRecDepth 20000 in
theorem c_X11_right (l : Launch) {w : zW} (hw : zWk w)  (p0 : Nat) (p1 : Int) (p2 : Int) (p3 : Int) (M0 : zM) (hp0 : ztag w.1 p0 = 12) : zCn l yX11_right cX11_right 10 (some .long) (4) 2 w [rn w p0, iv p1, iv p2, iv p3] M0 (f_X11_right w.1 p0 p1 p2 p3 M0) := by
  have hT := hw.1
  refine zCn_of (own := RX11) (by decide) rfl hw (Nat.le_of_ble_eq_true rfl) [(0, rn w p0), (1, iv p1), (2, iv p2), (3, iv p3)] rfl ?_
  intro κ hl
  subst hl
  unfold f_X11_right
  refine zv_iload_n dX11_right_0 1 rfl ?_
  refine zv_iconst (z := 0) dX11_right_1 ?_
  refine zv_iconst (z := 3) dX11_right_2 ?_
  refine zv_pc (zv_callSi [iv p1, iv 0, iv 3] (c_X11_within κ.2.1 hw p1 0 3 M0 ) zmd_X11_within zwT_X11_within zwM_RX11_183 rfl (by decide) rfl (Nat.le_of_ble_eq_true rfl) dX11_right_3 (fun mh2 v1 h2 => ?_))
  obtain rfl := zpuE h2
  refine zv_if_eq (tgt := 25) dX11_right_6 (by decide) ?_ ?_
  · refine zv_ldc2 (z := (-1)) dX11_right_25 zwK_RX11_211 (by decide) ?_
    exact zv_ret (fun h => h) (zv_lret dX11_right_28)
  refine zv_iload_n dX11_right_9 2 rfl ?_
  refine zv_pc (zv_callSi [iv p2] (c_X11_isAge κ.2.1 hw p2 M0 ) zmd_X11_isAge zwT_X11_isAge zwM_RX11_335 rfl (by decide) rfl (Nat.le_of_ble_eq_true rfl) dX11_right_10 (fun mh4 v3 h4 => ?_))
  obtain rfl := zpuE h4
  refine zv_if_eq (tgt := 25) dX11_right_13 (by decide) ?_ ?_
  · refine zv_ldc2 (z := (-1)) dX11_right_25 zwK_RX11_211 (by decide) ?_
    exact zv_ret (fun h => h) (zv_lret dX11_right_28)
  refine zv_iload_n dX11_right_16 3 rfl ?_
  refine zv_iconst (z := 0) dX11_right_17 ?_
  refine zv_iconst (z := 1) dX11_right_18 ?_
  refine zv_pc (zv_callSi [iv p3, iv 0, iv 1] (c_X11_within κ.2.1 hw p3 0 1 M0 ) zmd_X11_within zwT_X11_within zwM_RX11_183 rfl (by decide) rfl (Nat.le_of_ble_eq_true rfl) dX11_right_19 (fun mh6 v5 h6 => ?_))
  obtain rfl := zpuE h6
  refine zv_if_ne (tgt := 29) dX11_right_22 (by decide) ?_ ?_
  · refine zv_rload_n dX11_right_29 0 rfl ?_
    refine zv_iload_n dX11_right_30 2 rfl ?_
    refine zv_vc (zv_callVv [iv p2] (c_X11_finds κ.2.1 hw p0 p2 M0 hp0) zmd_X11_finds zwI_X11_finds zwS_X11_finds zwM_RX11_385 zcd_11 hp0 rfl (by decide) rfl (Nat.le_of_ble_eq_true rfl) dX11_right_31 (fun M7 _ _ => ?_))
    refine zv_lconst (z := 0) dX11_right_34 (by decide) ?_
    refine zv_lstore_p (L' := [(4, jv 0), (0, rn w p0), (1, iv p1), (2, iv p2), (3, iv p3)]) dX11_right_35 (by decide) rfl ?_
    refine zv_lconst (z := 0) dX11_right_37 (by decide) ?_
    refine zv_lstore_p (L' := [(6, jv 0), (4, jv 0), (0, rn w p0), (1, iv p1), (2, iv p2), (3, iv p3)]) dX11_right_38 (by decide) rfl ?_
    refine zv_iconst (z := 0) dX11_right_40 ?_
    refine zv_istore_p (L' := [(8, iv 0), (6, jv 0), (4, jv 0), (0, rn w p0), (1, iv p1), (2, iv p2), (3, iv p3)]) dX11_right_41 (by decide) rfl ?_
    refine zv_join2 103 (fun x16 x17 => [(0, rn w p0), (1, iv p1), (2, iv p2), (3, iv p3), (4, jv x16), (6, jv x17)]) (fun x16 x17 => []) (fun x16 x17 => M7) (zv_sub (L' := [(4, jv 0), (6, jv 0), (8, iv 0), (0, rn w p0), (1, iv p1), (2, iv p2), (3, iv p3)]) [2, 1, 0, 3, 4, 5, 6] rfl (vl_X11_right_43 hw p0 p1 p2 p3 hp0 M7 _ (fun _ _ h => h) 0 0 0)) (fun x16 x17 => ?_)
    refine zv_rload_n dX11_right_103 0 rfl ?_
    refine zv_iload_n dX11_right_104 1 rfl ?_
    refine zv_iload_n dX11_right_105 2 rfl ?_
    refine (zv_callVi [iv p1, iv p2] (c_X11_leanOf κ.2.1 hw p0 p1 p2 M7 hp0) zmd_X11_leanOf zwI_X11_leanOf zwS_X11_leanOf zwM_RX11_474 zcd_11 hp0 rfl (by decide) rfl (Nat.le_of_ble_eq_true rfl) dX11_right_106 (fun M19 v18 _ => ?_))
    refine zv_i2l dX11_right_109 ?_
    refine zv_lstore_p (L' := [(8, jv v18), (0, rn w p0), (1, iv p1), (2, iv p2), (3, iv p3), (4, jv x16), (6, jv x17)]) dX11_right_110 (by decide) rfl ?_
    refine zv_lload dX11_right_112 0 rfl ?_
    refine zv_lconst (z := 0) dX11_right_114 (by decide) ?_
    refine zv_lcmp_eq (tgt := 126) dX11_right_115 dX11_right_116 (by decide) ?_ ?_
    · refine zv_ldc2 (z := (-1)) dX11_right_126 zwK_RX11_211 (by decide) ?_
      refine zv_goto (tgt := 151) dX11_right_129 (by decide) ?_
      exact zv_ret (fun h => h) (zv_lret dX11_right_151)
    refine zv_lload dX11_right_119 6 rfl ?_
    refine zv_lconst (z := 0) dX11_right_121 (by decide) ?_
    refine zv_lcmp_ne (tgt := 132) dX11_right_122 dX11_right_123 (by decide) ?_ ?_
    · refine zv_lload dX11_right_132 5 rfl ?_
      refine zv_rload_n dX11_right_134 1 rfl ?_
      refine zv_iconst (z := (-1)) dX11_right_135 ?_
      refine zv_iload_n dX11_right_136 3 rfl ?_
      refine (zv_callVi [iv (-1), iv p2] (c_X11_leanOf κ.2.1 hw p0 (-1) p2 M19 hp0) zmd_X11_leanOf zwI_X11_leanOf zwS_X11_leanOf zwM_RX11_474 zcd_11 hp0 rfl (by decide) rfl (Nat.le_of_ble_eq_true rfl) dX11_right_137 (fun M21 v20 _ => ?_))
      refine zv_i2l dX11_right_140 ?_
      refine zv_lmul dX11_right_141 ?_
      refine zv_lload dX11_right_142 0 rfl ?_
      refine zv_lload dX11_right_144 6 rfl ?_
      refine zv_lmul dX11_right_146 ?_
      refine zv_iload_n dX11_right_147 4 rfl ?_
      refine zv_pc (zv_callSl [jv (x16 * v20), jv (v18 * x17), iv p3] (c_X11_lowest κ.2.1 hw (x16 * v20) (v18 * x17) p3 M21 ) zmd_X11_lowest zwT_X11_lowest zwM_RX11_415 rfl (by decide) rfl (Nat.le_of_ble_eq_true rfl) dX11_right_148 (fun mh23 v22 h23 => ?_))
      obtain rfl := zpuE h23
      exact zv_ret (fun h => h) (zv_lret dX11_right_151)
    refine zv_ldc2 (z := (-1)) dX11_right_126 zwK_RX11_211 (by decide) ?_
    refine zv_goto (tgt := 151) dX11_right_129 (by decide) ?_
    exact zv_ret (fun h => h) (zv_lret dX11_right_151)
  refine zv_ldc2 (z := (-1)) dX11_right_25 zwK_RX11_211 (by decide) ?_
  exact zv_ret (fun h => h) (zv_lret dX11_right_28)
def fb_X11_say_38 (k : zK)  (l0 : Nat) (l1 : Int) (l2 : Int) (M0 : zM) (y3 : Int) (y4 : Int) : Option ((Int × Int) ⊕ (Int)) :=
  zgd (0 ≤ (0 : Int) ∧ (0 : Int) < 4) (zbr y4 (M0 (zfr k l0 2) (Int.toNat 0)) (M0 (zfr k l0 2) (Int.toNat 0) ≤ y4) (some (.inr y3)) (zgd (0 ≤ y4 ∧ y4 < 240) (zbr (M0 (zfr k l0 10) y4.toNat) l1 (¬ M0 (zfr k l0 10) y4.toNat = l1) (zlt (y4 + 1) (fun x6 => some (.inl (y3, x6)))) (zgd (0 ≤ y4 ∧ y4 < 240) (zgd (0 ≤ y4 ∧ y4 < 240) (zb1 (f_X11_within k l2 (M0 (zfr k l0 12) y4.toNat) (M0 (zfr k l0 13) y4.toNat) M0) (fun v7 => zbr v7 0 (¬ v7 = 0) (zgd (0 ≤ y4 ∧ y4 < 240) (zb1 (zbr (M0 (zfr k l0 11) y4.toNat) 0 (¬ M0 (zfr k l0 11) y4.toNat = 0) (some (3)) (some (2))) (fun x9 => zbr x9 y3 (x9 ≤ y3) (zlt (y4 + 1) (fun x10 => some (.inl (y3, x10)))) (zlt (y4 + 1) (fun x11 => some (.inl (x9, x11))))))) (zlt (y4 + 1) (fun x12 => some (.inl (y3, x12)))))))))))
def f_X11_say (k : zK)  (p0 : Nat) (p1 : Int) (p2 : Int) (M0 : zM) : Option (zM × Int) :=
  zb1 (f_X11_isCell k p1 M0) (fun v1 => zbr v1 0 (v1 = 0) (some (M0, (-2))) (zb1 (f_X11_isAge k p2 M0) (fun v3 => zbr v3 0 (¬ v3 = 0) (zb1 (f_X11_finds k p0 p2 M0) (fun M5 => zgd (0 ≤ p1 ∧ p1 < 256) (zbr (M5 (zfr k p0 55) p1.toNat) 0 (¬ M5 (zfr k p0 55) p1.toNat = 0) (zb1 (zw2 (fb_X11_say_38 k p0 p1 p2 M5) zfu 0 0) (fun x13 => zbr x13 0 (x13 ≤ 0) (zb1 (f_X11_findLeft k p0 p1 M5) (fun M14 => zbl (2 * (M14 p0 63)) (M14 p0 64) (2 * (M14 p0 63) < M14 p0 64) (some (M14, 0)) (some (M14, 1)))) (some (M5, x13)))) (some (M5, (-1)))))) (some (M0, (-2))))))
theorem vl_X11_say_38 {κ : zC} {w : zW} (hw : zWk w)  (l0 : Nat) (l1 : Int) (l2 : Int) (g0 : ztag w.1 l0 = 12) (M0 : zM) (E : (Int) → Prop) (hX : ∀ (u3 : Int), E u3 → zB cX11_say RX11 6 (some .int) κ w (0, 0, 4) 116 [(0, rn w l0), (1, iv l1), (3, iv u3)] [] M0)  (y3 : Int) (y4 : Int) :
    zV cX11_say RX11 6 (some .int) κ w (0, 0, 4) 38 [(3, iv y3), (4, iv y4), (0, rn w l0), (1, iv l1), (2, iv l2)] [] M0 (zw2 (fb_X11_say_38 w.1 l0 l1 l2 M0) zfu y3 y4) E := by
  have hT := hw.1
  refine zv_loop2 (fun y3 y4 => [(3, iv y3), (4, iv y4), (0, rn w l0), (1, iv l1), (2, iv l2)]) (fun y3 y4 => M0) (fun y3 y4 => ?_) y3 y4
  unfold fb_X11_say_38
  refine zv_iload dX11_say_38 1 rfl ?_
  refine zv_rload_n dX11_say_40 2 rfl ?_
  refine zg_RX11_16 dX11_say_41 g0 ?_
  refine zv_iconst (z := 0) dX11_say_44 ?_
  refine zv_iald dX11_say_45 (zta_11_2 hT g0) (ztl_11_2 hT g0) (by decide) ?_
  refine zv_icmp_ge (tgt := 116) dX11_say_46 (by decide) ?_ ?_
  · exact zv_sub (L' := [(0, rn w l0), (1, iv l1), (3, iv y3)]) [2, 3, 0] rfl (zv_exit (fun h => hX _ h))
  refine zv_rload_n dX11_say_49 2 rfl ?_
  refine zg_RX11_40 dX11_say_50 g0 ?_
  refine zv_iload dX11_say_53 1 rfl ?_
  refine zv_iald dX11_say_55 (zta_11_10 hT g0) (ztl_11_10 hT g0) (by decide) ?_
  refine zv_iload_n dX11_say_56 3 rfl ?_
  refine zv_icmp_ne (tgt := 110) dX11_say_57 (by decide) ?_ ?_
  · refine zv_iinc dX11_say_110 1 rfl (fun x6 => [(4, iv x6), (3, iv y3), (0, rn w l0), (1, iv l1), (2, iv l2)]) (by decide) (fun _ => rfl) (fun x6 => ?_)
    refine zv_goto (tgt := 38) dX11_say_113 (by decide) ?_
    exact zv_sub (L' := [(3, iv y3), (4, iv x6), (0, rn w l0), (1, iv l1), (2, iv l2)]) [1, 0, 2, 3, 4] rfl (zv_exit (fun h => h))
  refine zv_iload_n dX11_say_60 4 rfl ?_
  refine zv_rload_n dX11_say_61 2 rfl ?_
  refine zg_RX11_46 dX11_say_62 g0 ?_
  refine zv_iload dX11_say_65 1 rfl ?_
  refine zv_iald dX11_say_67 (zta_11_12 hT g0) (ztl_11_12 hT g0) (by decide) ?_
  refine zv_rload_n dX11_say_68 2 rfl ?_
  refine zg_RX11_49 dX11_say_69 g0 ?_
  refine zv_iload dX11_say_72 1 rfl ?_
  refine zv_iald dX11_say_74 (zta_11_13 hT g0) (ztl_11_13 hT g0) (by decide) ?_
  refine zv_pc (zv_callSi [iv l2, iv (M0 (zfr w.1 l0 12) y4.toNat), iv (M0 (zfr w.1 l0 13) y4.toNat)] (c_X11_within κ.2.1 hw l2 (M0 (zfr w.1 l0 12) y4.toNat) (M0 (zfr w.1 l0 13) y4.toNat) M0 ) zmd_X11_within zwT_X11_within zwM_RX11_183 rfl (by decide) rfl (Nat.le_of_ble_eq_true rfl) dX11_say_75 (fun mh8 v7 h8 => ?_))
  obtain rfl := zpuE h8
  refine zv_if_ne (tgt := 84) dX11_say_78 (by decide) ?_ ?_
  · refine zv_rload_n dX11_say_84 2 rfl ?_
    refine zg_RX11_43 dX11_say_85 g0 ?_
    refine zv_iload dX11_say_88 1 rfl ?_
    refine zv_iald dX11_say_90 (zta_11_11 hT g0) (ztl_11_11 hT g0) (by decide) ?_
    refine zv_join1 99 (fun x9 => [(3, iv y3), (4, iv y4), (0, rn w l0), (1, iv l1), (2, iv l2)]) (fun x9 => [iv x9]) (fun x9 => M0) ?_ (fun x9 => ?_)
    · refine zv_if_ne (tgt := 98) dX11_say_91 (by decide) ?_ ?_
      · refine zv_iconst (z := 3) dX11_say_98 ?_
        exact zv_sub (L' := [(3, iv y3), (4, iv y4), (0, rn w l0), (1, iv l1), (2, iv l2)]) [0, 1, 2, 3, 4] rfl (zv_exit (fun h => h))
      refine zv_iconst (z := 2) dX11_say_94 ?_
      refine zv_goto (tgt := 99) dX11_say_95 (by decide) ?_
      exact zv_sub (L' := [(3, iv y3), (4, iv y4), (0, rn w l0), (1, iv l1), (2, iv l2)]) [0, 1, 2, 3, 4] rfl (zv_exit (fun h => h))
    refine zv_istore_p (L' := [(5, iv x9), (3, iv y3), (4, iv y4), (0, rn w l0), (1, iv l1), (2, iv l2)]) dX11_say_99 (by decide) rfl ?_
    refine zv_iload dX11_say_101 0 rfl ?_
    refine zv_iload_n dX11_say_103 1 rfl ?_
    refine zv_icmp_le (tgt := 110) dX11_say_104 (by decide) ?_ ?_
    · refine zv_iinc dX11_say_110 2 rfl (fun x10 => [(4, iv x10), (5, iv x9), (3, iv y3), (0, rn w l0), (1, iv l1), (2, iv l2)]) (by decide) (fun _ => rfl) (fun x10 => ?_)
      refine zv_goto (tgt := 38) dX11_say_113 (by decide) ?_
      exact zv_sub (L' := [(3, iv y3), (4, iv x10), (0, rn w l0), (1, iv l1), (2, iv l2)]) [2, 0, 3, 4, 5] rfl (zv_exit (fun h => h))
    refine zv_iload dX11_say_107 0 rfl ?_
    refine zv_istore_np (L' := [(3, iv x9), (5, iv x9), (4, iv y4), (0, rn w l0), (1, iv l1), (2, iv l2)]) (by rfl) dX11_say_109 (by decide) rfl ?_
    refine zv_iinc dX11_say_110 2 rfl (fun x11 => [(4, iv x11), (3, iv x9), (5, iv x9), (0, rn w l0), (1, iv l1), (2, iv l2)]) (by decide) (fun _ => rfl) (fun x11 => ?_)
    refine zv_goto (tgt := 38) dX11_say_113 (by decide) ?_
    exact zv_sub (L' := [(3, iv x9), (4, iv x11), (0, rn w l0), (1, iv l1), (2, iv l2)]) [1, 0, 3, 4, 5] rfl (zv_exit (fun h => h))
  refine zv_goto (tgt := 110) dX11_say_81 (by decide) ?_
  refine zv_iinc dX11_say_110 1 rfl (fun x12 => [(4, iv x12), (3, iv y3), (0, rn w l0), (1, iv l1), (2, iv l2)]) (by decide) (fun _ => rfl) (fun x12 => ?_)
  refine zv_goto (tgt := 38) dX11_say_113 (by decide) ?_
  exact zv_sub (L' := [(3, iv y3), (4, iv x12), (0, rn w l0), (1, iv l1), (2, iv l2)]) [1, 0, 2, 3, 4] rfl (zv_exit (fun h => h))
theorem c_X11_say (l : Launch) {w : zW} (hw : zWk w)  (p0 : Nat) (p1 : Int) (p2 : Int) (M0 : zM) (hp0 : ztag w.1 p0 = 12) : zCn l yX11_say cX11_say 6 (some .int) (4) 1 w [rn w p0, iv p1, iv p2] M0 (f_X11_say w.1 p0 p1 p2 M0) := by
  have hT := hw.1
  refine zCn_of (own := RX11) (by decide) rfl hw (Nat.le_of_ble_eq_true rfl) [(0, rn w p0), (1, iv p1), (2, iv p2)] rfl ?_
  intro κ hl
  subst hl
  unfold f_X11_say
  refine zv_iload_n dX11_say_0 1 rfl ?_
  refine zv_pc (zv_callSi [iv p1] (c_X11_isCell κ.2.1 hw p1 M0 ) zmd_X11_isCell zwT_X11_isCell zwM_RX11_191 rfl (by decide) rfl (Nat.le_of_ble_eq_true rfl) dX11_say_1 (fun mh2 v1 h2 => ?_))
  obtain rfl := zpuE h2
  refine zv_if_eq (tgt := 14) dX11_say_4 (by decide) ?_ ?_
  · refine zv_bipush (z := (-2)) dX11_say_14 (by decide) ?_
    exact zv_ret (fun h => h) (zv_iret dX11_say_16)
  refine zv_iload_n dX11_say_7 2 rfl ?_
  refine zv_pc (zv_callSi [iv p2] (c_X11_isAge κ.2.1 hw p2 M0 ) zmd_X11_isAge zwT_X11_isAge zwM_RX11_335 rfl (by decide) rfl (Nat.le_of_ble_eq_true rfl) dX11_say_8 (fun mh4 v3 h4 => ?_))
  obtain rfl := zpuE h4
  refine zv_if_ne (tgt := 17) dX11_say_11 (by decide) ?_ ?_
  · refine zv_rload_n dX11_say_17 0 rfl ?_
    refine zv_iload_n dX11_say_18 2 rfl ?_
    refine zv_vc (zv_callVv [iv p2] (c_X11_finds κ.2.1 hw p0 p2 M0 hp0) zmd_X11_finds zwI_X11_finds zwS_X11_finds zwM_RX11_385 zcd_11 hp0 rfl (by decide) rfl (Nat.le_of_ble_eq_true rfl) dX11_say_19 (fun M5 _ _ => ?_))
    refine zv_rload_n dX11_say_22 0 rfl ?_
    refine zg_RX11_139 dX11_say_23 hp0 ?_
    refine zv_iload_n dX11_say_26 1 rfl ?_
    refine zv_zald dX11_say_27 (zta_11_55 hT hp0) (ztl_11_55 hT hp0) (by decide) ?_
    refine zv_if_ne (tgt := 33) dX11_say_28 (by decide) ?_ ?_
    · refine zv_iconst (z := 0) dX11_say_33 ?_
      refine zv_istore_np (L' := [(3, iv 0), (0, rn w p0), (1, iv p1), (2, iv p2)]) (by rfl) dX11_say_34 (by decide) rfl ?_
      refine zv_iconst (z := 0) dX11_say_35 ?_
      refine zv_istore_p (L' := [(4, iv 0), (3, iv 0), (0, rn w p0), (1, iv p1), (2, iv p2)]) dX11_say_36 (by decide) rfl ?_
      refine zv_join1 116 (fun x13 => [(0, rn w p0), (1, iv p1), (3, iv x13)]) (fun x13 => []) (fun x13 => M5) (zv_sub (L' := [(3, iv 0), (4, iv 0), (0, rn w p0), (1, iv p1), (2, iv p2)]) [1, 0, 2, 3, 4] rfl (vl_X11_say_38 hw p0 p1 p2 hp0 M5 _ (fun _ h => h) 0 0)) (fun x13 => ?_)
      refine zv_iload_n dX11_say_116 2 rfl ?_
      refine zv_if_le (tgt := 122) dX11_say_117 (by decide) ?_ ?_
      · refine zv_rload_n dX11_say_122 0 rfl ?_
        refine zv_iload_n dX11_say_123 1 rfl ?_
        refine zv_vc (zv_callVv [iv p1] (c_X11_findLeft κ.2.1 hw p0 p1 M5 hp0) zmd_X11_findLeft zwI_X11_findLeft zwS_X11_findLeft zwM_RX11_443 zcd_11 hp0 rfl (by decide) rfl (Nat.le_of_ble_eq_true rfl) dX11_say_124 (fun M14 _ _ => ?_))
        refine zv_ldc2 (z := 2) dX11_say_127 zwK_RX11_494 (by decide) ?_
        refine zv_rload_n dX11_say_130 0 rfl ?_
        refine zg_RX11_428 dX11_say_131 hp0 ?_
        refine zv_lmul dX11_say_134 ?_
        refine zv_rload_n dX11_say_135 0 rfl ?_
        refine zg_RX11_431 dX11_say_136 hp0 ?_
        refine zv_lcmp_lt (tgt := 147) dX11_say_139 dX11_say_140 (by decide) ?_ ?_
        · refine zv_iconst (z := 0) dX11_say_147 ?_
          exact zv_ret (fun h => h) (zv_iret dX11_say_148)
        refine zv_iconst (z := 1) dX11_say_143 ?_
        refine zv_goto (tgt := 148) dX11_say_144 (by decide) ?_
        exact zv_ret (fun h => h) (zv_iret dX11_say_148)
      refine zv_iload_n dX11_say_120 2 rfl ?_
      exact zv_ret (fun h => h) (zv_iret dX11_say_121)
    refine zv_iconst (z := (-1)) dX11_say_31 ?_
    exact zv_ret (fun h => h) (zv_iret dX11_say_32)
  refine zv_bipush (z := (-2)) dX11_say_14 (by decide) ?_
  exact zv_ret (fun h => h) (zv_iret dX11_say_16)
def f_X11_sea (k : zK)  (p0 : Nat) (p1 : Int) (p2 : Int) (M0 : zM) : Option (zM × Int) :=
  zb1 (f_X11_isAge k p1 M0) (fun v1 => zbr v1 0 (v1 = 0) (some (M0, (-1))) (zb1 (f_X11_within k p2 0 1 M0) (fun v3 => zbr v3 0 (¬ v3 = 0) (zb1 (f_X11_findSea k p0 p1 M0) (fun M5 => zbr p2 0 (¬ p2 = 0) (some (M5, M5 p0 49)) (some (M5, M5 p0 48)))) (some (M0, (-1))))))
theorem c_X11_sea (l : Launch) {w : zW} (hw : zWk w)  (p0 : Nat) (p1 : Int) (p2 : Int) (M0 : zM) (hp0 : ztag w.1 p0 = 12) : zCn l yX11_sea cX11_sea 3 (some .int) (1) 1 w [rn w p0, iv p1, iv p2] M0 (f_X11_sea w.1 p0 p1 p2 M0) := by
  have hT := hw.1
  refine zCn_of (own := RX11) (by decide) rfl hw (Nat.le_of_ble_eq_true rfl) [(0, rn w p0), (1, iv p1), (2, iv p2)] rfl ?_
  intro κ hl
  subst hl
  unfold f_X11_sea
  refine zv_iload_n dX11_sea_0 1 rfl ?_
  refine zv_pc (zv_callSi [iv p1] (c_X11_isAge κ.2.1 hw p1 M0 ) zmd_X11_isAge zwT_X11_isAge zwM_RX11_335 rfl (by decide) rfl (Nat.le_of_ble_eq_true rfl) dX11_sea_1 (fun mh2 v1 h2 => ?_))
  obtain rfl := zpuE h2
  refine zv_if_eq (tgt := 16) dX11_sea_4 (by decide) ?_ ?_
  · refine zv_iconst (z := (-1)) dX11_sea_16 ?_
    exact zv_ret (fun h => h) (zv_iret dX11_sea_17)
  refine zv_iload_n dX11_sea_7 2 rfl ?_
  refine zv_iconst (z := 0) dX11_sea_8 ?_
  refine zv_iconst (z := 1) dX11_sea_9 ?_
  refine zv_pc (zv_callSi [iv p2, iv 0, iv 1] (c_X11_within κ.2.1 hw p2 0 1 M0 ) zmd_X11_within zwT_X11_within zwM_RX11_183 rfl (by decide) rfl (Nat.le_of_ble_eq_true rfl) dX11_sea_10 (fun mh4 v3 h4 => ?_))
  obtain rfl := zpuE h4
  refine zv_if_ne (tgt := 18) dX11_sea_13 (by decide) ?_ ?_
  · refine zv_rload_n dX11_sea_18 0 rfl ?_
    refine zv_iload_n dX11_sea_19 1 rfl ?_
    refine zv_vc (zv_callVv [iv p1] (c_X11_findSea κ.2.1 hw p0 p1 M0 hp0) zmd_X11_findSea zwI_X11_findSea zwS_X11_findSea zwM_RX11_338 zcd_11 hp0 rfl (by decide) rfl (Nat.le_of_ble_eq_true rfl) dX11_sea_20 (fun M5 _ _ => ?_))
    refine zv_iload_n dX11_sea_23 2 rfl ?_
    refine zv_if_ne (tgt := 34) dX11_sea_24 (by decide) ?_ ?_
    · refine zv_rload_n dX11_sea_34 0 rfl ?_
      refine zg_RX11_332 dX11_sea_35 hp0 ?_
      exact zv_ret (fun h => h) (zv_iret dX11_sea_38)
    refine zv_rload_n dX11_sea_27 0 rfl ?_
    refine zg_RX11_329 dX11_sea_28 hp0 ?_
    refine zv_goto (tgt := 38) dX11_sea_31 (by decide) ?_
    exact zv_ret (fun h => h) (zv_iret dX11_sea_38)
  refine zv_iconst (z := (-1)) dX11_sea_16 ?_
  exact zv_ret (fun h => h) (zv_iret dX11_sea_17)
def fb_X11_ship_58 (k : zK)  (l0 : Nat) (l1 : Int) (l3 : Int) (y4 : Int) (M0 : zM) : Option ((Int × zM) ⊕ (zM)) :=
  zgd (0 ≤ (0 : Int) ∧ (0 : Int) < 4) (zbr y4 (M0 (zfr k l0 3) (Int.toNat 0)) (M0 (zfr k l0 3) (Int.toNat 0) ≤ y4) (some (.inr M0)) (zgd (0 ≤ y4 ∧ y4 < 40) (zb1 (f_X11_findLeft k l0 (M0 (zfr k l0 14) y4.toNat) M0) (fun M8 => zgd ((0 ≤ (M8 l0 63) * 1000000 ∧ (M8 l0 63) * 1000000 ≤ 9223372036854775807) ∧ 0 < M8 l0 64 ∧ M8 l0 64 ≤ 9223372036854775807) (zgd (0 ≤ y4 ∧ y4 < 10) (zlt (zst M8 (zfr k l0 66) y4.toNat (((M8 l0 63) * 1000000) / (M8 l0 64))) (fun M9 => zbr y4 0 (¬ y4 = 0) (zgd (0 ≤ y4 ∧ y4 < 10) (zlt (zst M9 (zfr k l0 67) y4.toNat (0)) (fun M10 => zlt (y4 + 1) (fun x11 => some (.inl (x11, M10)))))) (zgd (0 ≤ y4 ∧ y4 < 10) (zlt (zst M9 (zfr k l0 67) y4.toNat (l1)) (fun M12 => zlt (y4 + 1) (fun x13 => some (.inl (x13, M12)))))))))))))
def fb_X11_ship_169 (k : zK)  (l0 : Nat) (l3 : Int) (l4 : Int) (y9 : Int) (M0 : zM) : Option ((Int × zM) ⊕ (zM)) :=
  zgd (0 ≤ (0 : Int) ∧ (0 : Int) < 4) (zbr y9 (M0 (zfr k l0 3) (Int.toNat 0)) (M0 (zfr k l0 3) (Int.toNat 0) ≤ y9) (some (.inr M0)) (zgd (0 ≤ y9 ∧ y9 < 10) (zgd (0 ≤ y9 ∧ y9 < 10) (zlt (zst M0 (zfr k l0 68) y9.toNat (M0 (zfr k l0 67) y9.toNat)) (fun M22 => zlt (y9 + 1) (fun x23 => some (.inl (x23, M22))))))))
def fb_X11_ship_132 (k : zK)  (l0 : Nat) (l3 : Int) (y4 : Int) (y6 : Int) (M0 : zM) : Option ((Int × Int × zM) ⊕ (Int × zM)) :=
  zbr y6 0 (y6 = 0) (some (.inr (y4, M0))) (zb1 (f_X11_catches k l0 M0) (fun v15 => zb1 (f_X11_leaves k l0 v15 M0) (fun v17 => zsp1 (zbl y4 0 (y4 < 0) (some (.inl M0)) (zbl v17 y4 (y4 ≤ v17) (zbd (f_X11_goesOn k l0 M0) (fun M20 v19 => some (.inr (.inl (y4, v19, M20))))) (some (.inl M0)))) (fun r => some r) (fun M21 => zb1 (zw2 (fb_X11_ship_169 k l0 l3 v17) zfu 0 M21) (fun M24 => zbd (f_X11_goesOn k l0 M24) (fun M26 v25 => some (.inl (v17, v25, M26))))))))
def f_X11_ship (k : zK)  (p0 : Nat) (p1 : Int) (p2 : Int) (p3 : Int) (M0 : zM) : Option (zM × Int) :=
  zb1 (f_X11_within k p1 1 6 M0) (fun v1 => zbr v1 0 (v1 = 0) (some (M0, (-1))) (zb1 (f_X11_isAge k p2 M0) (fun v3 => zbr v3 0 (v3 = 0) (some (M0, (-1))) (zgd (0 ≤ (0 : Int) ∧ (0 : Int) < 4) (zbr (M0 (zfr k p0 3) (Int.toNat 0)) 0 (M0 (zfr k p0 3) (Int.toNat 0) = 0) (some (M0, (-1))) (zsp0 (zbr p3 0 (p3 = 0) (some (.inl ())) (zgd (0 ≤ (0 : Int) ∧ (0 : Int) < 4) (zb1 (f_X11_within k p3 10 (9 + (M0 (zfr k p0 3) (Int.toNat 0))) M0) (fun v5 => zbr v5 0 (¬ v5 = 0) (some (.inl ())) (some (.inr (M0, (-1)))))))) (fun r => some r) (zb1 (f_X11_finds k p0 p2 M0) (fun M7 => zb1 (zw2 (fb_X11_ship_58 k p0 p1 p3) zfu 0 M7) (fun M14 => zb2 (zw3 (fb_X11_ship_132 k p0 p3) zfu (-1) 1 M14) (fun x27 M28 => zbr p3 0 (¬ p3 = 0) (zgd (0 ≤ p3 - 10 ∧ p3 - 10 < 10) (some (M28, M28 (zfr k p0 68) (p3 - 10).toNat))) (some (M28, 1000000 - x27))))))))))))
theorem vl_X11_ship_58 {κ : zC} {w : zW} (hw : zWk w)  (l0 : Nat) (l1 : Int) (l3 : Int) (g0 : ztag w.1 l0 = 12)  (E : (zM) → Prop) (hX : ∀  (M1 : zM), E M1 → zB cX11_ship RX11 10 (some .int) κ w (0, 0, 4) 124 [(0, rn w l0), (3, iv l3)] [] M1)  (y4 : Int) (M0 : zM) :
    zV cX11_ship RX11 10 (some .int) κ w (0, 0, 4) 58 [(4, iv y4), (0, rn w l0), (1, iv l1), (3, iv l3)] [] M0 (zw2 (fb_X11_ship_58 w.1 l0 l1 l3) zfu y4 M0) E := by
  have hT := hw.1
  refine zv_loop2 (fun y4 M0 => [(4, iv y4), (0, rn w l0), (1, iv l1), (3, iv l3)]) (fun y4 M0 => M0) (fun y4 M0 => ?_) y4 M0
  unfold fb_X11_ship_58
  refine zv_iload dX11_ship_58 0 rfl ?_
  refine zv_rload_n dX11_ship_60 1 rfl ?_
  refine zg_RX11_19 dX11_ship_61 g0 ?_
  refine zv_iconst (z := 0) dX11_ship_64 ?_
  refine zv_iald dX11_ship_65 (zta_11_3 hT g0) (ztl_11_3 hT g0) (by decide) ?_
  refine zv_icmp_ge (tgt := 124) dX11_ship_66 (by decide) ?_ ?_
  · exact zv_sub (L' := [(0, rn w l0), (3, iv l3)]) [1, 3] rfl (zv_exit (fun h => hX _ h))
  refine zv_rload_n dX11_ship_69 1 rfl ?_
  refine zv_rload_n dX11_ship_70 1 rfl ?_
  refine zg_RX11_52 dX11_ship_71 g0 ?_
  refine zv_iload dX11_ship_74 0 rfl ?_
  refine zv_iald dX11_ship_76 (zta_11_14 hT g0) (ztl_11_14 hT g0) (by decide) ?_
  refine zv_vc (zv_callVv [iv (M0 (zfr w.1 l0 14) y4.toNat)] (c_X11_findLeft κ.2.1 hw l0 (M0 (zfr w.1 l0 14) y4.toNat) M0 g0) zmd_X11_findLeft zwI_X11_findLeft zwS_X11_findLeft zwM_RX11_443 zcd_11 g0 rfl (by decide) rfl (Nat.le_of_ble_eq_true rfl) dX11_ship_77 (fun M8 _ _ => ?_))
  refine zv_rload_n dX11_ship_80 1 rfl ?_
  refine zg_RX11_154 dX11_ship_81 g0 ?_
  refine zv_iload dX11_ship_84 0 rfl ?_
  refine zv_rload_n dX11_ship_86 1 rfl ?_
  refine zg_RX11_428 dX11_ship_87 g0 ?_
  refine zv_ldc2 (z := 1000000) dX11_ship_90 zwK_RX11_462 (by decide) ?_
  refine zv_lmul dX11_ship_93 ?_
  refine zv_rload_n dX11_ship_94 1 rfl ?_
  refine zg_RX11_431 dX11_ship_95 g0 ?_
  refine zv_ldiv dX11_ship_98 ?_
  refine zv_l2i dX11_ship_99 ?_
  refine zv_iast dX11_ship_100 (zta_11_66 hT g0) (ztl_11_66 hT g0) (by decide) (fun M9 => ?_)
  refine zv_rload_n dX11_ship_101 1 rfl ?_
  refine zg_RX11_157 dX11_ship_102 g0 ?_
  refine zv_iload dX11_ship_105 0 rfl ?_
  refine zv_iload dX11_ship_107 0 rfl ?_
  refine zv_if_ne (tgt := 116) dX11_ship_109 (by decide) ?_ ?_
  · refine zv_iconst (z := 0) dX11_ship_116 ?_
    refine zv_iast dX11_ship_117 (zta_11_67 hT g0) (ztl_11_67 hT g0) (by decide) (fun M10 => ?_)
    refine zv_iinc dX11_ship_118 0 rfl (fun x11 => [(4, iv x11), (0, rn w l0), (1, iv l1), (3, iv l3)]) (by decide) (fun _ => rfl) (fun x11 => ?_)
    refine zv_goto (tgt := 58) dX11_ship_121 (by decide) ?_
    exact zv_sub (L' := [(4, iv x11), (0, rn w l0), (1, iv l1), (3, iv l3)]) [0, 1, 2, 3] rfl (zv_exit (fun h => h))
  refine zv_iload_n dX11_ship_112 2 rfl ?_
  refine zv_goto (tgt := 117) dX11_ship_113 (by decide) ?_
  refine zv_iast dX11_ship_117 (zta_11_67 hT g0) (ztl_11_67 hT g0) (by decide) (fun M12 => ?_)
  refine zv_iinc dX11_ship_118 0 rfl (fun x13 => [(4, iv x13), (0, rn w l0), (1, iv l1), (3, iv l3)]) (by decide) (fun _ => rfl) (fun x13 => ?_)
  refine zv_goto (tgt := 58) dX11_ship_121 (by decide) ?_
  exact zv_sub (L' := [(4, iv x13), (0, rn w l0), (1, iv l1), (3, iv l3)]) [0, 1, 2, 3] rfl (zv_exit (fun h => h))
theorem vl_X11_ship_169 {κ : zC} {w : zW} (hw : zWk w)  (l0 : Nat) (l3 : Int) (l4 : Int) (g0 : ztag w.1 l0 = 12)  (E : (zM) → Prop) (hX : ∀  (M1 : zM), E M1 → zB cX11_ship RX11 10 (some .int) κ w (0, 0, 4) 200 [(0, rn w l0), (3, iv l3), (4, jv l4)] [] M1)  (y9 : Int) (M0 : zM) :
    zV cX11_ship RX11 10 (some .int) κ w (0, 0, 4) 169 [(9, iv y9), (0, rn w l0), (3, iv l3), (4, jv l4)] [] M0 (zw2 (fb_X11_ship_169 w.1 l0 l3 l4) zfu y9 M0) E := by
  have hT := hw.1
  refine zv_loop2 (fun y9 M0 => [(9, iv y9), (0, rn w l0), (3, iv l3), (4, jv l4)]) (fun y9 M0 => M0) (fun y9 M0 => ?_) y9 M0
  unfold fb_X11_ship_169
  refine zv_iload dX11_ship_169 0 rfl ?_
  refine zv_rload_n dX11_ship_171 1 rfl ?_
  refine zg_RX11_19 dX11_ship_172 g0 ?_
  refine zv_iconst (z := 0) dX11_ship_175 ?_
  refine zv_iald dX11_ship_176 (zta_11_3 hT g0) (ztl_11_3 hT g0) (by decide) ?_
  refine zv_icmp_ge (tgt := 200) dX11_ship_177 (by decide) ?_ ?_
  · exact zv_sub (L' := [(0, rn w l0), (3, iv l3), (4, jv l4)]) [1, 2, 3] rfl (zv_exit (fun h => hX _ h))
  refine zv_rload_n dX11_ship_180 1 rfl ?_
  refine zg_RX11_160 dX11_ship_181 g0 ?_
  refine zv_iload dX11_ship_184 0 rfl ?_
  refine zv_rload_n dX11_ship_186 1 rfl ?_
  refine zg_RX11_157 dX11_ship_187 g0 ?_
  refine zv_iload dX11_ship_190 0 rfl ?_
  refine zv_iald dX11_ship_192 (zta_11_67 hT g0) (ztl_11_67 hT g0) (by decide) ?_
  refine zv_iast dX11_ship_193 (zta_11_68 hT g0) (ztl_11_68 hT g0) (by decide) (fun M22 => ?_)
  refine zv_iinc dX11_ship_194 0 rfl (fun x23 => [(9, iv x23), (0, rn w l0), (3, iv l3), (4, jv l4)]) (by decide) (fun _ => rfl) (fun x23 => ?_)
  refine zv_goto (tgt := 169) dX11_ship_197 (by decide) ?_
  exact zv_sub (L' := [(9, iv x23), (0, rn w l0), (3, iv l3), (4, jv l4)]) [0, 1, 2, 3] rfl (zv_exit (fun h => h))
theorem vl_X11_ship_132 {κ : zC} {w : zW} (hw : zWk w)  (l0 : Nat) (l3 : Int) (g0 : ztag w.1 l0 = 12)  (E : (Int × zM) → Prop) (hX : ∀ (u4 : Int) (M1 : zM), E (u4, M1) → zB cX11_ship RX11 10 (some .int) κ w (0, 0, 4) 209 [(0, rn w l0), (3, iv l3), (4, jv u4)] [] M1)  (y4 : Int) (y6 : Int) (M0 : zM) :
    zV cX11_ship RX11 10 (some .int) κ w (0, 0, 4) 132 [(4, jv y4), (6, iv y6), (0, rn w l0), (3, iv l3)] [] M0 (zw3 (fb_X11_ship_132 w.1 l0 l3) zfu y4 y6 M0) E := by
  have hT := hw.1
  refine zv_loop3 (fun y4 y6 M0 => [(4, jv y4), (6, iv y6), (0, rn w l0), (3, iv l3)]) (fun y4 y6 M0 => M0) (fun y4 y6 M0 => ?_) y4 y6 M0
  unfold fb_X11_ship_132
  refine zv_iload dX11_ship_132 1 rfl ?_
  refine zv_if_eq (tgt := 209) dX11_ship_134 (by decide) ?_ ?_
  · exact zv_sub (L' := [(0, rn w l0), (3, iv l3), (4, jv y4)]) [2, 3, 0] rfl (zv_exit (fun h => hX _ _ h))
  refine zv_rload_n dX11_ship_137 2 rfl ?_
  refine zv_rload_n dX11_ship_138 2 rfl ?_
  refine zv_pc (zv_callVi [] (c_X11_catches κ.2.1 hw l0 M0 g0) zmd_X11_catches zwI_X11_catches zwS_X11_catches zwM_RX11_434 zcd_11 g0 rfl (by decide) rfl (Nat.le_of_ble_eq_true rfl) dX11_ship_139 (fun mh16 v15 h16 => ?_))
  obtain rfl := zpuE h16
  refine zv_pc (zv_callVl [iv v15] (c_X11_leaves κ.2.1 hw l0 v15 M0 g0) zmd_X11_leaves zwI_X11_leaves zwS_X11_leaves zwM_RX11_464 zcd_11 g0 rfl (by decide) rfl (Nat.le_of_ble_eq_true rfl) dX11_ship_142 (fun mh18 v17 h18 => ?_))
  obtain rfl := zpuE h18
  refine zv_lstore_p (L' := [(7, jv v17), (4, jv y4), (6, iv y6), (0, rn w l0), (3, iv l3)]) dX11_ship_145 (by decide) rfl ?_
  refine zv_lload dX11_ship_147 1 rfl ?_
  refine zv_lconst (z := 0) dX11_ship_149 (by decide) ?_
  refine zv_joinS1 (fun r => r) 162 (fun M21 => [(7, jv v17), (0, rn w l0), (3, iv l3)]) (fun M21 => []) (fun M21 => M21) ?_ (fun M21 => ?_)
  · refine zv_lcmp_lt (tgt := 162) dX11_ship_150 dX11_ship_151 (by decide) ?_ ?_
    · exact zv_sub (L' := [(7, jv v17), (0, rn w l0), (3, iv l3)]) [0, 3, 4] rfl (zv_exit (fun h => h))
    refine zv_lload dX11_ship_154 0 rfl ?_
    refine zv_lload dX11_ship_156 1 rfl ?_
    refine zv_lcmp_ge (tgt := 200) dX11_ship_158 dX11_ship_159 (by decide) ?_ ?_
    · refine zv_rload_n dX11_ship_200 3 rfl ?_
      refine (zv_callVi [] (c_X11_goesOn κ.2.1 hw l0 M0 g0) zmd_X11_goesOn zwI_X11_goesOn zwS_X11_goesOn zwM_RX11_468 zcd_11 g0 rfl (by decide) rfl (Nat.le_of_ble_eq_true rfl) dX11_ship_201 (fun M20 v19 _ => ?_))
      refine zv_istore_p (L' := [(6, iv v19), (7, jv v17), (4, jv y4), (0, rn w l0), (3, iv l3)]) dX11_ship_204 (by decide) rfl ?_
      refine zv_goto (tgt := 132) dX11_ship_206 (by decide) ?_
      exact zv_sub (L' := [(4, jv y4), (6, iv v19), (0, rn w l0), (3, iv l3)]) [2, 0, 3, 4] rfl (zv_exit (fun h => h))
    exact zv_sub (L' := [(7, jv v17), (0, rn w l0), (3, iv l3)]) [0, 3, 4] rfl (zv_exit (fun h => h))
  refine zv_lload dX11_ship_162 0 rfl ?_
  refine zv_lstore_p (L' := [(4, jv v17), (7, jv v17), (0, rn w l0), (3, iv l3)]) dX11_ship_164 (by decide) rfl ?_
  refine zv_iconst (z := 0) dX11_ship_166 ?_
  refine zv_istore_p (L' := [(9, iv 0), (4, jv v17), (7, jv v17), (0, rn w l0), (3, iv l3)]) dX11_ship_167 (by decide) rfl ?_
  refine zv_join1 200 (fun M24 => [(0, rn w l0), (3, iv l3), (4, jv v17)]) (fun M24 => []) (fun M24 => M24) (zv_sub (L' := [(9, iv 0), (0, rn w l0), (3, iv l3), (4, jv v17)]) [0, 3, 4, 1] rfl (vl_X11_ship_169 hw l0 l3 v17 g0 _ (fun _ h => h) 0 M21)) (fun M24 => ?_)
  refine zv_rload_n dX11_ship_200 0 rfl ?_
  refine (zv_callVi [] (c_X11_goesOn κ.2.1 hw l0 M24 g0) zmd_X11_goesOn zwI_X11_goesOn zwS_X11_goesOn zwM_RX11_468 zcd_11 g0 rfl (by decide) rfl (Nat.le_of_ble_eq_true rfl) dX11_ship_201 (fun M26 v25 _ => ?_))
  refine zv_istore_p (L' := [(6, iv v25), (0, rn w l0), (3, iv l3), (4, jv v17)]) dX11_ship_204 (by decide) rfl ?_
  refine zv_goto (tgt := 132) dX11_ship_206 (by decide) ?_
  exact zv_sub (L' := [(4, jv v17), (6, iv v25), (0, rn w l0), (3, iv l3)]) [3, 0, 1, 2] rfl (zv_exit (fun h => h))
set_option maxRecDepth 20000 in
theorem c_X11_ship (l : Launch) {w : zW} (hw : zWk w)  (p0 : Nat) (p1 : Int) (p2 : Int) (p3 : Int) (M0 : zM) (hp0 : ztag w.1 p0 = 12) : zCn l yX11_ship cX11_ship 10 (some .int) (4) 1 w [rn w p0, iv p1, iv p2, iv p3] M0 (f_X11_ship w.1 p0 p1 p2 p3 M0) := by
  have hT := hw.1
  refine zCn_of (own := RX11) (by decide) rfl hw (Nat.le_of_ble_eq_true rfl) [(0, rn w p0), (1, iv p1), (2, iv p2), (3, iv p3)] rfl ?_
  intro κ hl
  subst hl
  unfold f_X11_ship
  refine zv_iload_n dX11_ship_0 1 rfl ?_
  refine zv_iconst (z := 1) dX11_ship_1 ?_
  refine zv_bipush (z := 6) dX11_ship_2 (by decide) ?_
  refine zv_pc (zv_callSi [iv p1, iv 1, iv 6] (c_X11_within κ.2.1 hw p1 1 6 M0 ) zmd_X11_within zwT_X11_within zwM_RX11_183 rfl (by decide) rfl (Nat.le_of_ble_eq_true rfl) dX11_ship_4 (fun mh2 v1 h2 => ?_))
  obtain rfl := zpuE h2
  refine zv_if_eq (tgt := 48) dX11_ship_7 (by decide) ?_ ?_
  · refine zv_iconst (z := (-1)) dX11_ship_48 ?_
    exact zv_ret (fun h => h) (zv_iret dX11_ship_49)
  refine zv_iload_n dX11_ship_10 2 rfl ?_
  refine zv_pc (zv_callSi [iv p2] (c_X11_isAge κ.2.1 hw p2 M0 ) zmd_X11_isAge zwT_X11_isAge zwM_RX11_335 rfl (by decide) rfl (Nat.le_of_ble_eq_true rfl) dX11_ship_11 (fun mh4 v3 h4 => ?_))
  obtain rfl := zpuE h4
  refine zv_if_eq (tgt := 48) dX11_ship_14 (by decide) ?_ ?_
  · refine zv_iconst (z := (-1)) dX11_ship_48 ?_
    exact zv_ret (fun h => h) (zv_iret dX11_ship_49)
  refine zv_rload_n dX11_ship_17 0 rfl ?_
  refine zg_RX11_19 dX11_ship_18 hp0 ?_
  refine zv_iconst (z := 0) dX11_ship_21 ?_
  refine zv_iald dX11_ship_22 (zta_11_3 hT hp0) (ztl_11_3 hT hp0) (by decide) ?_
  refine zv_if_eq (tgt := 48) dX11_ship_23 (by decide) ?_ ?_
  · refine zv_iconst (z := (-1)) dX11_ship_48 ?_
    exact zv_ret (fun h => h) (zv_iret dX11_ship_49)
  refine zv_iload_n dX11_ship_26 3 rfl ?_
  refine zv_joinS0 (fun r => r) 50 ([(0, rn w p0), (1, iv p1), (2, iv p2), (3, iv p3)]) ([]) (M0) ?_ (?_)
  · refine zv_if_eq (tgt := 50) dX11_ship_27 (by decide) ?_ ?_
    · exact zv_sub (L' := [(0, rn w p0), (1, iv p1), (2, iv p2), (3, iv p3)]) [0, 1, 2, 3] rfl (zv_exit (fun h => h))
    refine zv_iload_n dX11_ship_30 3 rfl ?_
    refine zv_bipush (z := 10) dX11_ship_31 (by decide) ?_
    refine zv_bipush (z := 9) dX11_ship_33 (by decide) ?_
    refine zv_rload_n dX11_ship_35 0 rfl ?_
    refine zg_RX11_19 dX11_ship_36 hp0 ?_
    refine zv_iconst (z := 0) dX11_ship_39 ?_
    refine zv_iald dX11_ship_40 (zta_11_3 hT hp0) (ztl_11_3 hT hp0) (by decide) ?_
    refine zv_iadd dX11_ship_41 ?_
    refine zv_pc (zv_callSi [iv p3, iv 10, iv (9 + (M0 (zfr w.1 p0 3) (Int.toNat 0)))] (c_X11_within κ.2.1 hw p3 10 (9 + (M0 (zfr w.1 p0 3) (Int.toNat 0))) M0 ) zmd_X11_within zwT_X11_within zwM_RX11_183 rfl (by decide) rfl (Nat.le_of_ble_eq_true rfl) dX11_ship_42 (fun mh6 v5 h6 => ?_))
    obtain rfl := zpuE h6
    refine zv_if_ne (tgt := 50) dX11_ship_45 (by decide) ?_ ?_
    · exact zv_sub (L' := [(0, rn w p0), (1, iv p1), (2, iv p2), (3, iv p3)]) [0, 1, 2, 3] rfl (zv_exit (fun h => h))
    refine zv_iconst (z := (-1)) dX11_ship_48 ?_
    exact zv_ret (fun h => h) (zv_iret dX11_ship_49)
  refine zv_rload_n dX11_ship_50 0 rfl ?_
  refine zv_iload_n dX11_ship_51 2 rfl ?_
  refine zv_vc (zv_callVv [iv p2] (c_X11_finds κ.2.1 hw p0 p2 M0 hp0) zmd_X11_finds zwI_X11_finds zwS_X11_finds zwM_RX11_385 zcd_11 hp0 rfl (by decide) rfl (Nat.le_of_ble_eq_true rfl) dX11_ship_52 (fun M7 _ _ => ?_))
  refine zv_iconst (z := 0) dX11_ship_55 ?_
  refine zv_istore_p (L' := [(4, iv 0), (0, rn w p0), (1, iv p1), (2, iv p2), (3, iv p3)]) dX11_ship_56 (by decide) rfl ?_
  refine zv_join1 124 (fun M14 => [(0, rn w p0), (3, iv p3)]) (fun M14 => []) (fun M14 => M14) (zv_sub (L' := [(4, iv 0), (0, rn w p0), (1, iv p1), (3, iv p3)]) [0, 1, 2, 4] rfl (vl_X11_ship_58 hw p0 p1 p3 hp0 _ (fun _ h => h) 0 M7)) (fun M14 => ?_)
  refine zv_ldc2 (z := (-1)) dX11_ship_124 zwK_RX11_211 (by decide) ?_
  refine zv_lstore_p (L' := [(4, jv (-1)), (0, rn w p0), (3, iv p3)]) dX11_ship_127 (by decide) rfl ?_
  refine zv_iconst (z := 1) dX11_ship_129 ?_
  refine zv_istore_p (L' := [(6, iv 1), (4, jv (-1)), (0, rn w p0), (3, iv p3)]) dX11_ship_130 (by decide) rfl ?_
  refine zv_join2 209 (fun x27 M28 => [(0, rn w p0), (3, iv p3), (4, jv x27)]) (fun x27 M28 => []) (fun x27 M28 => M28) (zv_sub (L' := [(4, jv (-1)), (6, iv 1), (0, rn w p0), (3, iv p3)]) [1, 0, 2, 3] rfl (vl_X11_ship_132 hw p0 p3 hp0 _ (fun _ _ h => h) (-1) 1 M14)) (fun x27 M28 => ?_)
  refine zv_iload_n dX11_ship_209 1 rfl ?_
  refine zv_if_ne (tgt := 223) dX11_ship_210 (by decide) ?_ ?_
  · refine zv_rload_n dX11_ship_223 0 rfl ?_
    refine zg_RX11_160 dX11_ship_224 hp0 ?_
    refine zv_iload_n dX11_ship_227 1 rfl ?_
    refine zv_bipush (z := 10) dX11_ship_228 (by decide) ?_
    refine zv_isub dX11_ship_230 ?_
    refine zv_iald dX11_ship_231 (zta_11_68 hT hp0) (ztl_11_68 hT hp0) (by decide) ?_
    exact zv_ret (fun h => h) (zv_iret dX11_ship_232)
  refine zv_ldc2 (z := 1000000) dX11_ship_213 zwK_RX11_462 (by decide) ?_
  refine zv_lload dX11_ship_216 2 rfl ?_
  refine zv_lsub dX11_ship_218 ?_
  refine zv_l2i dX11_ship_219 ?_
  refine zv_goto (tgt := 232) dX11_ship_220 (by decide) ?_
  exact zv_ret (fun h => h) (zv_iret dX11_ship_232)
def fb_X11_shore_28 (k : zK)  (l0 : Nat) (l3 : Int) (M0 : zM) (y2 : Int) (y4 : Int) : Option ((Int × Int) ⊕ (Int)) :=
  zbr y4 4 (4 ≤ y4) (some (.inr y2)) (zb1 (f_X11_beside k l3 y4 M0) (fun v4 => zbr v4 0 (v4 < 0) (zlt (y4 + 2) (fun x6 => some (.inl (y2, x6)))) (zgd (0 ≤ l3 ∧ l3 < 256) (zb1 (f_X11_beside k l3 y4 M0) (fun v7 => zgd (0 ≤ v7 ∧ v7 < 256) (zbr (M0 (zfr k l0 55) l3.toNat) (M0 (zfr k l0 55) v7.toNat) (M0 (zfr k l0 55) l3.toNat = M0 (zfr k l0 55) v7.toNat) (zlt (y4 + 2) (fun x9 => some (.inl (y2, x9)))) (zlt (y2 + 1) (fun x10 => zlt (y4 + 2) (fun x11 => some (.inl (x10, x11)))))))))))
def fb_X11_shore_18 (k : zK)  (l0 : Nat) (M0 : zM) (y2 : Int) (y3 : Int) : Option ((Int × Int) ⊕ (Int)) :=
  zbr y3 256 (256 ≤ y3) (some (.inr y2)) (zb1 (zw2 (fb_X11_shore_28 k l0 y3 M0) zfu y2 1) (fun x12 => zlt (y3 + 1) (fun x13 => some (.inl (x12, x13)))))
def f_X11_shore (k : zK)  (p0 : Nat) (p1 : Int) (M0 : zM) : Option (zM × Int) :=
  zb1 (f_X11_isAge k p1 M0) (fun v1 => zbr v1 0 (¬ v1 = 0) (zb1 (f_X11_finds k p0 p1 M0) (fun M3 => zb1 (zw2 (fb_X11_shore_18 k p0 M3) zfu 0 0) (fun x14 => some (M3, x14)))) (some (M0, (-1))))
theorem vl_X11_shore_28 {κ : zC} {w : zW} (hw : zWk w)  (l0 : Nat) (l3 : Int) (g0 : ztag w.1 l0 = 12) (M0 : zM) (E : (Int) → Prop) (hX : ∀ (u2 : Int), E u2 → zB cX11_shore RX11 5 (some .int) κ w (0, 0, 4) 72 [(0, rn w l0), (2, iv u2), (3, iv l3)] [] M0)  (y2 : Int) (y4 : Int) :
    zV cX11_shore RX11 5 (some .int) κ w (0, 0, 4) 28 [(2, iv y2), (4, iv y4), (0, rn w l0), (3, iv l3)] [] M0 (zw2 (fb_X11_shore_28 w.1 l0 l3 M0) zfu y2 y4) E := by
  have hT := hw.1
  refine zv_loop2 (fun y2 y4 => [(2, iv y2), (4, iv y4), (0, rn w l0), (3, iv l3)]) (fun y2 y4 => M0) (fun y2 y4 => ?_) y2 y4
  unfold fb_X11_shore_28
  refine zv_iload dX11_shore_28 1 rfl ?_
  refine zv_iconst (z := 4) dX11_shore_30 ?_
  refine zv_icmp_ge (tgt := 72) dX11_shore_31 (by decide) ?_ ?_
  · exact zv_sub (L' := [(0, rn w l0), (2, iv y2), (3, iv l3)]) [2, 0, 3] rfl (zv_exit (fun h => hX _ h))
  refine zv_iload_n dX11_shore_34 3 rfl ?_
  refine zv_iload dX11_shore_35 1 rfl ?_
  refine zv_pc (zv_callSi [iv l3, iv y4] (c_X11_beside κ.2.1 hw l3 y4 M0 ) zmd_X11_beside zwT_X11_beside zwM_RX11_353 rfl (by decide) rfl (Nat.le_of_ble_eq_true rfl) dX11_shore_37 (fun mh5 v4 h5 => ?_))
  obtain rfl := zpuE h5
  refine zv_if_lt (tgt := 66) dX11_shore_40 (by decide) ?_ ?_
  · refine zv_iinc dX11_shore_66 1 rfl (fun x6 => [(4, iv x6), (2, iv y2), (0, rn w l0), (3, iv l3)]) (by decide) (fun _ => rfl) (fun x6 => ?_)
    refine zv_goto (tgt := 28) dX11_shore_69 (by decide) ?_
    exact zv_sub (L' := [(2, iv y2), (4, iv x6), (0, rn w l0), (3, iv l3)]) [1, 0, 2, 3] rfl (zv_exit (fun h => h))
  refine zv_rload_n dX11_shore_43 2 rfl ?_
  refine zg_RX11_139 dX11_shore_44 g0 ?_
  refine zv_iload_n dX11_shore_47 3 rfl ?_
  refine zv_zald dX11_shore_48 (zta_11_55 hT g0) (ztl_11_55 hT g0) (by decide) ?_
  refine zv_rload_n dX11_shore_49 2 rfl ?_
  refine zg_RX11_139 dX11_shore_50 g0 ?_
  refine zv_iload_n dX11_shore_53 3 rfl ?_
  refine zv_iload dX11_shore_54 1 rfl ?_
  refine zv_pc (zv_callSi [iv l3, iv y4] (c_X11_beside κ.2.1 hw l3 y4 M0 ) zmd_X11_beside zwT_X11_beside zwM_RX11_353 rfl (by decide) rfl (Nat.le_of_ble_eq_true rfl) dX11_shore_56 (fun mh8 v7 h8 => ?_))
  obtain rfl := zpuE h8
  refine zv_zald dX11_shore_59 (zta_11_55 hT g0) (ztl_11_55 hT g0) (by decide) ?_
  refine zv_icmp_eq (tgt := 66) dX11_shore_60 (by decide) ?_ ?_
  · refine zv_iinc dX11_shore_66 1 rfl (fun x9 => [(4, iv x9), (2, iv y2), (0, rn w l0), (3, iv l3)]) (by decide) (fun _ => rfl) (fun x9 => ?_)
    refine zv_goto (tgt := 28) dX11_shore_69 (by decide) ?_
    exact zv_sub (L' := [(2, iv y2), (4, iv x9), (0, rn w l0), (3, iv l3)]) [1, 0, 2, 3] rfl (zv_exit (fun h => h))
  refine zv_iinc dX11_shore_63 0 rfl (fun x10 => [(2, iv x10), (4, iv y4), (0, rn w l0), (3, iv l3)]) (by decide) (fun _ => rfl) (fun x10 => ?_)
  refine zv_iinc dX11_shore_66 1 rfl (fun x11 => [(4, iv x11), (2, iv x10), (0, rn w l0), (3, iv l3)]) (by decide) (fun _ => rfl) (fun x11 => ?_)
  refine zv_goto (tgt := 28) dX11_shore_69 (by decide) ?_
  exact zv_sub (L' := [(2, iv x10), (4, iv x11), (0, rn w l0), (3, iv l3)]) [1, 0, 2, 3] rfl (zv_exit (fun h => h))
theorem vl_X11_shore_18 {κ : zC} {w : zW} (hw : zWk w)  (l0 : Nat) (g0 : ztag w.1 l0 = 12) (M0 : zM) (E : (Int) → Prop) (hX : ∀ (u2 : Int), E u2 → zB cX11_shore RX11 5 (some .int) κ w (0, 0, 4) 78 [(2, iv u2)] [] M0)  (y2 : Int) (y3 : Int) :
    zV cX11_shore RX11 5 (some .int) κ w (0, 0, 4) 18 [(2, iv y2), (3, iv y3), (0, rn w l0)] [] M0 (zw2 (fb_X11_shore_18 w.1 l0 M0) zfu y2 y3) E := by
  have hT := hw.1
  refine zv_loop2 (fun y2 y3 => [(2, iv y2), (3, iv y3), (0, rn w l0)]) (fun y2 y3 => M0) (fun y2 y3 => ?_) y2 y3
  unfold fb_X11_shore_18
  refine zv_iload_n dX11_shore_18 1 rfl ?_
  refine zv_sipush (z := 256) dX11_shore_19 (by decide) ?_
  refine zv_icmp_ge (tgt := 78) dX11_shore_22 (by decide) ?_ ?_
  · exact zv_sub (L' := [(2, iv y2)]) [0] rfl (zv_exit (fun h => hX _ h))
  refine zv_iconst (z := 1) dX11_shore_25 ?_
  refine zv_istore_p (L' := [(4, iv 1), (2, iv y2), (3, iv y3), (0, rn w l0)]) dX11_shore_26 (by decide) rfl ?_
  refine zv_join1 72 (fun x12 => [(0, rn w l0), (2, iv x12), (3, iv y3)]) (fun x12 => []) (fun x12 => M0) (zv_sub (L' := [(2, iv y2), (4, iv 1), (0, rn w l0), (3, iv y3)]) [1, 0, 3, 2] rfl (vl_X11_shore_28 hw l0 y3 g0 M0 _ (fun _ h => h) y2 1)) (fun x12 => ?_)
  refine zv_iinc dX11_shore_72 2 rfl (fun x13 => [(3, iv x13), (0, rn w l0), (2, iv x12)]) (by decide) (fun _ => rfl) (fun x13 => ?_)
  refine zv_goto (tgt := 18) dX11_shore_75 (by decide) ?_
  exact zv_sub (L' := [(2, iv x12), (3, iv x13), (0, rn w l0)]) [2, 0, 1] rfl (zv_exit (fun h => h))
theorem c_X11_shore (l : Launch) {w : zW} (hw : zWk w)  (p0 : Nat) (p1 : Int) (M0 : zM) (hp0 : ztag w.1 p0 = 12) : zCn l yX11_shore cX11_shore 5 (some .int) (4) 1 w [rn w p0, iv p1] M0 (f_X11_shore w.1 p0 p1 M0) := by
  have hT := hw.1
  refine zCn_of (own := RX11) (by decide) rfl hw (Nat.le_of_ble_eq_true rfl) [(0, rn w p0), (1, iv p1)] rfl ?_
  intro κ hl
  subst hl
  unfold f_X11_shore
  refine zv_iload_n dX11_shore_0 1 rfl ?_
  refine zv_pc (zv_callSi [iv p1] (c_X11_isAge κ.2.1 hw p1 M0 ) zmd_X11_isAge zwT_X11_isAge zwM_RX11_335 rfl (by decide) rfl (Nat.le_of_ble_eq_true rfl) dX11_shore_1 (fun mh2 v1 h2 => ?_))
  obtain rfl := zpuE h2
  refine zv_if_ne (tgt := 9) dX11_shore_4 (by decide) ?_ ?_
  · refine zv_rload_n dX11_shore_9 0 rfl ?_
    refine zv_iload_n dX11_shore_10 1 rfl ?_
    refine zv_vc (zv_callVv [iv p1] (c_X11_finds κ.2.1 hw p0 p1 M0 hp0) zmd_X11_finds zwI_X11_finds zwS_X11_finds zwM_RX11_385 zcd_11 hp0 rfl (by decide) rfl (Nat.le_of_ble_eq_true rfl) dX11_shore_11 (fun M3 _ _ => ?_))
    refine zv_iconst (z := 0) dX11_shore_14 ?_
    refine zv_istore_np (L' := [(2, iv 0), (0, rn w p0), (1, iv p1)]) (by rfl) dX11_shore_15 (by decide) rfl ?_
    refine zv_iconst (z := 0) dX11_shore_16 ?_
    refine zv_istore_np (L' := [(3, iv 0), (2, iv 0), (0, rn w p0), (1, iv p1)]) (by rfl) dX11_shore_17 (by decide) rfl ?_
    refine zv_join1 78 (fun x14 => [(2, iv x14)]) (fun x14 => []) (fun x14 => M3) (zv_sub (L' := [(2, iv 0), (3, iv 0), (0, rn w p0)]) [1, 0, 2] rfl (vl_X11_shore_18 hw p0 hp0 M3 _ (fun _ h => h) 0 0)) (fun x14 => ?_)
    refine zv_iload_n dX11_shore_78 0 rfl ?_
    exact zv_ret (fun h => h) (zv_iret dX11_shore_79)
  refine zv_iconst (z := (-1)) dX11_shore_7 ?_
  exact zv_ret (fun h => h) (zv_iret dX11_shore_8)
def f_X11_sound (k : zK)  (p0 : Nat) (p1 : Int) (p2 : Int) (p3 : Int) (M0 : zM) : Option (zM × Int) :=
  zb1 (f_X11_isCell k p1 M0) (fun v1 => zsp1 (zbr v1 0 (v1 = 0) (some (.inl M0)) (zb1 (f_X11_within k p2 0 99 M0) (fun v3 => zbr v3 0 (v3 = 0) (some (.inl M0)) (zb1 (f_X11_within k p3 p2 99 M0) (fun v5 => zbr v5 0 (¬ v5 = 0) (zgd (0 ≤ p1 ∧ p1 < 1024) (zlt (zst M0 (zfr k p0 5) p1.toNat (p2)) (fun M7 => zgd (0 ≤ p1 ∧ p1 < 1024) (zlt (zst M7 (zfr k p0 6) p1.toNat (p3)) (fun M8 => some (.inr (M8, 1))))))) (some (.inl M0))))))) (fun r => some r) (fun M9 => zbd (f_X11_isNot k p0 M9) (fun M11 v10 => zgd (v10 = 0 ∨ v10 = 1) (some (M11, v10)))))
theorem c_X11_sound (l : Launch) {w : zW} (hw : zWk w)  (p0 : Nat) (p1 : Int) (p2 : Int) (p3 : Int) (M0 : zM) (hp0 : ztag w.1 p0 = 12) : zCn l yX11_sound cX11_sound 4 (some .boolean) (1) 1 w [rn w p0, iv p1, iv p2, iv p3] M0 (f_X11_sound w.1 p0 p1 p2 p3 M0) := by
  have hT := hw.1
  refine zCn_of (own := RX11) (by decide) rfl hw (Nat.le_of_ble_eq_true rfl) [(0, rn w p0), (1, iv p1), (2, iv p2), (3, iv p3)] rfl ?_
  intro κ hl
  subst hl
  unfold f_X11_sound
  refine zv_iload_n dX11_sound_0 1 rfl ?_
  refine zv_pc (zv_callSi [iv p1] (c_X11_isCell κ.2.1 hw p1 M0 ) zmd_X11_isCell zwT_X11_isCell zwM_RX11_191 rfl (by decide) rfl (Nat.le_of_ble_eq_true rfl) dX11_sound_1 (fun mh2 v1 h2 => ?_))
  obtain rfl := zpuE h2
  refine zv_joinS1 (fun r => r) 27 (fun M9 => [(0, rn w p0)]) (fun M9 => []) (fun M9 => M9) ?_ (fun M9 => ?_)
  · refine zv_if_eq (tgt := 27) dX11_sound_4 (by decide) ?_ ?_
    · exact zv_sub (L' := [(0, rn w p0)]) [0] rfl (zv_exit (fun h => h))
    refine zv_iload_n dX11_sound_7 2 rfl ?_
    refine zv_iconst (z := 0) dX11_sound_8 ?_
    refine zv_bipush (z := 99) dX11_sound_9 (by decide) ?_
    refine zv_pc (zv_callSi [iv p2, iv 0, iv 99] (c_X11_within κ.2.1 hw p2 0 99 M0 ) zmd_X11_within zwT_X11_within zwM_RX11_183 rfl (by decide) rfl (Nat.le_of_ble_eq_true rfl) dX11_sound_11 (fun mh4 v3 h4 => ?_))
    obtain rfl := zpuE h4
    refine zv_if_eq (tgt := 27) dX11_sound_14 (by decide) ?_ ?_
    · exact zv_sub (L' := [(0, rn w p0)]) [0] rfl (zv_exit (fun h => h))
    refine zv_iload_n dX11_sound_17 3 rfl ?_
    refine zv_iload_n dX11_sound_18 2 rfl ?_
    refine zv_bipush (z := 99) dX11_sound_19 (by decide) ?_
    refine zv_pc (zv_callSi [iv p3, iv p2, iv 99] (c_X11_within κ.2.1 hw p3 p2 99 M0 ) zmd_X11_within zwT_X11_within zwM_RX11_183 rfl (by decide) rfl (Nat.le_of_ble_eq_true rfl) dX11_sound_21 (fun mh6 v5 h6 => ?_))
    obtain rfl := zpuE h6
    refine zv_if_ne (tgt := 32) dX11_sound_24 (by decide) ?_ ?_
    · refine zv_rload_n dX11_sound_32 0 rfl ?_
      refine zg_RX11_25 dX11_sound_33 hp0 ?_
      refine zv_iload_n dX11_sound_36 1 rfl ?_
      refine zv_iload_n dX11_sound_37 2 rfl ?_
      refine zv_iast dX11_sound_38 (zta_11_5 hT hp0) (ztl_11_5 hT hp0) (by decide) (fun M7 => ?_)
      refine zv_rload_n dX11_sound_39 0 rfl ?_
      refine zg_RX11_28 dX11_sound_40 hp0 ?_
      refine zv_iload_n dX11_sound_43 1 rfl ?_
      refine zv_iload_n dX11_sound_44 3 rfl ?_
      refine zv_iast dX11_sound_45 (zta_11_6 hT hp0) (ztl_11_6 hT hp0) (by decide) (fun M8 => ?_)
      refine zv_iconst (z := 1) dX11_sound_46 ?_
      exact zv_ret (fun h => h) (zv_zrB (by decide) dX11_sound_47)
    exact zv_sub (L' := [(0, rn w p0)]) [0] rfl (zv_exit (fun h => h))
  refine zv_rload_n dX11_sound_27 0 rfl ?_
  refine (zv_callVi [] (c_X11_isNot κ.2.1 hw p0 M9 hp0) zmd_X11_isNot zwI_X11_isNot zwS_X11_isNot zwM_RX11_187 zcd_11 hp0 rfl (by decide) rfl (Nat.le_of_ble_eq_true rfl) dX11_sound_28 (fun M11 v10 _ => ?_))
  exact zv_gd (fun hg => zv_ret (fun h => h) (zv_zrB hg dX11_sound_31))
def fb_X11_tried_15 (k : zK)  (l0 : Nat) (l1 : Int) (y2 : Int) (y3 : Int) (M0 : zM) : Option ((Int × Int × zM) ⊕ (Int × zM)) :=
  zgd (0 ≤ (0 : Int) ∧ (0 : Int) < 4) (zbr y3 (M0 (zfr k l0 1) (Int.toNat 0)) (M0 (zfr k l0 1) (Int.toNat 0) ≤ y3) (some (.inr (y2, M0))) (zb1 (zbr l1 0 (¬ l1 = 0) (some (-1)) (zgd (0 ≤ y3 ∧ y3 < 320) (some (M0 (zfr k l0 9) y3.toNat)))) (fun x3 => zb1 (f_X11_learn k l0 x3 y3 M0) (fun M4 => zgd (0 ≤ y3 ∧ y3 < 320) (zbr (M4 (zfr k l0 18) y3.toNat) 0 (M4 (zfr k l0 18) y3.toNat = 0) (zgd ((0 ≤ 1000 * (M4 l0 61) ∧ 1000 * (M4 l0 61) ≤ 2147483647) ∧ 0 < M4 l0 62 ∧ M4 l0 62 ≤ 2147483647) (zlt (y2 + ((1000 * (M4 l0 61)) / (M4 l0 62))) (fun x5 => zlt (y3 + 1) (fun x6 => some (.inl (x5, x6, M4)))))) (zgd ((0 ≤ 1000 * (M4 l0 61) ∧ 1000 * (M4 l0 61) ≤ 2147483647) ∧ 0 < M4 l0 62 ∧ M4 l0 62 ≤ 2147483647) (zlt (y2 + (1000 - ((1000 * (M4 l0 61)) / (M4 l0 62)))) (fun x7 => zlt (y3 + 1) (fun x8 => some (.inl (x7, x8, M4)))))))))))
def f_X11_tried (k : zK)  (p0 : Nat) (p1 : Int) (M0 : zM) : Option (zM × Int) :=
  zb1 (f_X11_within k p1 0 1 M0) (fun v1 => zbr v1 0 (¬ v1 = 0) (zb2 (zw3 (fb_X11_tried_15 k p0 p1) zfu 0 0 M0) (fun x9 M10 => some (M10, x9))) (some (M0, (-1))))
theorem vl_X11_tried_15 {κ : zC} {w : zW} (hw : zWk w)  (l0 : Nat) (l1 : Int) (g0 : ztag w.1 l0 = 12)  (E : (Int × zM) → Prop) (hX : ∀ (u2 : Int) (M1 : zM), E (u2, M1) → zB cX11_tried RX11 4 (some .int) κ w (0, 0, 1) 95 [(2, iv u2)] [] M1)  (y2 : Int) (y3 : Int) (M0 : zM) :
    zV cX11_tried RX11 4 (some .int) κ w (0, 0, 1) 15 [(2, iv y2), (3, iv y3), (0, rn w l0), (1, iv l1)] [] M0 (zw3 (fb_X11_tried_15 w.1 l0 l1) zfu y2 y3 M0) E := by
  have hT := hw.1
  refine zv_loop3 (fun y2 y3 M0 => [(2, iv y2), (3, iv y3), (0, rn w l0), (1, iv l1)]) (fun y2 y3 M0 => M0) (fun y2 y3 M0 => ?_) y2 y3 M0
  unfold fb_X11_tried_15
  refine zv_iload_n dX11_tried_15 1 rfl ?_
  refine zv_rload_n dX11_tried_16 2 rfl ?_
  refine zg_RX11_13 dX11_tried_17 g0 ?_
  refine zv_iconst (z := 0) dX11_tried_20 ?_
  refine zv_iald dX11_tried_21 (zta_11_1 hT g0) (ztl_11_1 hT g0) (by decide) ?_
  refine zv_icmp_ge (tgt := 95) dX11_tried_22 (by decide) ?_ ?_
  · exact zv_sub (L' := [(2, iv y2)]) [0] rfl (zv_exit (fun h => hX _ _ h))
  refine zv_rload_n dX11_tried_25 2 rfl ?_
  refine zv_iload_n dX11_tried_26 3 rfl ?_
  refine zv_join1 40 (fun x3 => [(2, iv y2), (3, iv y3), (0, rn w l0), (1, iv l1)]) (fun x3 => [iv x3, rn w l0]) (fun x3 => M0) ?_ (fun x3 => ?_)
  · refine zv_if_ne (tgt := 39) dX11_tried_27 (by decide) ?_ ?_
    · refine zv_iconst (z := (-1)) dX11_tried_39 ?_
      exact zv_sub (L' := [(2, iv y2), (3, iv y3), (0, rn w l0), (1, iv l1)]) [0, 1, 2, 3] rfl (zv_exit (fun h => h))
    refine zv_rload_n dX11_tried_30 2 rfl ?_
    refine zg_RX11_37 dX11_tried_31 g0 ?_
    refine zv_iload_n dX11_tried_34 1 rfl ?_
    refine zv_iald dX11_tried_35 (zta_11_9 hT g0) (ztl_11_9 hT g0) (by decide) ?_
    refine zv_goto (tgt := 40) dX11_tried_36 (by decide) ?_
    exact zv_sub (L' := [(2, iv y2), (3, iv y3), (0, rn w l0), (1, iv l1)]) [0, 1, 2, 3] rfl (zv_exit (fun h => h))
  refine zv_iload_n dX11_tried_40 1 rfl ?_
  refine zv_vc (zv_callVv [iv x3, iv y3] (c_X11_learn κ.2.1 hw l0 x3 y3 M0 g0) zmd_X11_learn zwI_X11_learn zwS_X11_learn zwM_RX11_425 zcd_11 g0 rfl (by decide) rfl (Nat.le_of_ble_eq_true rfl) dX11_tried_41 (fun M4 _ _ => ?_))
  refine zv_iload_n dX11_tried_44 0 rfl ?_
  refine zv_rload_n dX11_tried_45 2 rfl ?_
  refine zg_RX11_64 dX11_tried_46 g0 ?_
  refine zv_iload_n dX11_tried_49 1 rfl ?_
  refine zv_zald dX11_tried_50 (zta_11_18 hT g0) (ztl_11_18 hT g0) (by decide) ?_
  refine zv_if_eq (tgt := 74) dX11_tried_51 (by decide) ?_ ?_
  · refine zv_sipush (z := 1000) dX11_tried_74 (by decide) ?_
    refine zv_rload_n dX11_tried_77 2 rfl ?_
    refine zg_RX11_419 dX11_tried_78 g0 ?_
    refine zv_imul dX11_tried_81 ?_
    refine zv_rload_n dX11_tried_82 2 rfl ?_
    refine zg_RX11_422 dX11_tried_83 g0 ?_
    refine zv_idiv dX11_tried_86 ?_
    refine zv_iadd dX11_tried_87 ?_
    refine zv_istore_n (i := 2) (by rfl) dX11_tried_88 (fun x5 => [(2, iv x5), (3, iv y3), (0, rn w l0), (1, iv l1)]) (by decide) (fun _ => rfl) (fun x5 => ?_)
    refine zv_iinc dX11_tried_89 1 rfl (fun x6 => [(3, iv x6), (2, iv x5), (0, rn w l0), (1, iv l1)]) (by decide) (fun _ => rfl) (fun x6 => ?_)
    refine zv_goto (tgt := 15) dX11_tried_92 (by decide) ?_
    exact zv_sub (L' := [(2, iv x5), (3, iv x6), (0, rn w l0), (1, iv l1)]) [1, 0, 2, 3] rfl (zv_exit (fun h => h))
  refine zv_sipush (z := 1000) dX11_tried_54 (by decide) ?_
  refine zv_sipush (z := 1000) dX11_tried_57 (by decide) ?_
  refine zv_rload_n dX11_tried_60 2 rfl ?_
  refine zg_RX11_419 dX11_tried_61 g0 ?_
  refine zv_imul dX11_tried_64 ?_
  refine zv_rload_n dX11_tried_65 2 rfl ?_
  refine zg_RX11_422 dX11_tried_66 g0 ?_
  refine zv_idiv dX11_tried_69 ?_
  refine zv_isub dX11_tried_70 ?_
  refine zv_goto (tgt := 87) dX11_tried_71 (by decide) ?_
  refine zv_iadd dX11_tried_87 ?_
  refine zv_istore_n (i := 2) (by rfl) dX11_tried_88 (fun x7 => [(2, iv x7), (3, iv y3), (0, rn w l0), (1, iv l1)]) (by decide) (fun _ => rfl) (fun x7 => ?_)
  refine zv_iinc dX11_tried_89 1 rfl (fun x8 => [(3, iv x8), (2, iv x7), (0, rn w l0), (1, iv l1)]) (by decide) (fun _ => rfl) (fun x8 => ?_)
  refine zv_goto (tgt := 15) dX11_tried_92 (by decide) ?_
  exact zv_sub (L' := [(2, iv x7), (3, iv x8), (0, rn w l0), (1, iv l1)]) [1, 0, 2, 3] rfl (zv_exit (fun h => h))
theorem c_X11_tried (l : Launch) {w : zW} (hw : zWk w)  (p0 : Nat) (p1 : Int) (M0 : zM) (hp0 : ztag w.1 p0 = 12) : zCn l yX11_tried cX11_tried 4 (some .int) (1) 1 w [rn w p0, iv p1] M0 (f_X11_tried w.1 p0 p1 M0) := by
  have hT := hw.1
  refine zCn_of (own := RX11) (by decide) rfl hw (Nat.le_of_ble_eq_true rfl) [(0, rn w p0), (1, iv p1)] rfl ?_
  intro κ hl
  subst hl
  unfold f_X11_tried
  refine zv_iload_n dX11_tried_0 1 rfl ?_
  refine zv_iconst (z := 0) dX11_tried_1 ?_
  refine zv_iconst (z := 1) dX11_tried_2 ?_
  refine zv_pc (zv_callSi [iv p1, iv 0, iv 1] (c_X11_within κ.2.1 hw p1 0 1 M0 ) zmd_X11_within zwT_X11_within zwM_RX11_183 rfl (by decide) rfl (Nat.le_of_ble_eq_true rfl) dX11_tried_3 (fun mh2 v1 h2 => ?_))
  obtain rfl := zpuE h2
  refine zv_if_ne (tgt := 11) dX11_tried_6 (by decide) ?_ ?_
  · refine zv_iconst (z := 0) dX11_tried_11 ?_
    refine zv_istore_np (L' := [(2, iv 0), (0, rn w p0), (1, iv p1)]) (by rfl) dX11_tried_12 (by decide) rfl ?_
    refine zv_iconst (z := 0) dX11_tried_13 ?_
    refine zv_istore_np (L' := [(3, iv 0), (2, iv 0), (0, rn w p0), (1, iv p1)]) (by rfl) dX11_tried_14 (by decide) rfl ?_
    refine zv_join2 95 (fun x9 M10 => [(2, iv x9)]) (fun x9 M10 => []) (fun x9 M10 => M10) (zv_sub (L' := [(2, iv 0), (3, iv 0), (0, rn w p0), (1, iv p1)]) [1, 0, 2, 3] rfl (vl_X11_tried_15 hw p0 p1 hp0 _ (fun _ _ h => h) 0 0 M0)) (fun x9 M10 => ?_)
    refine zv_iload_n dX11_tried_95 0 rfl ?_
    exact zv_ret (fun h => h) (zv_iret dX11_tried_96)
  refine zv_iconst (z := (-1)) dX11_tried_9 ?_
  exact zv_ret (fun h => h) (zv_iret dX11_tried_10)
def fb_X11_unlike_27 (k : zK)  (l0 : Nat) (l2 : Int) (y3 : Int) (M0 : zM) : Option ((Int × zM) ⊕ (zM)) :=
  zbr y3 16 (16 ≤ y3) (some (.inr M0)) (zgd (0 ≤ y3 ∧ y3 < 16) (zlt (zst M0 (zfr k l0 71) y3.toNat (0)) (fun M4 => zgd (0 ≤ y3 ∧ y3 < 16) (zlt (zst M4 (zfr k l0 72) y3.toNat (0)) (fun M5 => zlt (y3 + 1) (fun x6 => some (.inl (x6, M5))))))))
def fb_X11_unlike_55 (k : zK)  (l0 : Nat) (y2 : Int) (y3 : Int) (M0 : zM) : Option ((Int × Int × zM) ⊕ (Int × zM)) :=
  zbr y3 256 (256 ≤ y3) (some (.inr (y2, M0))) (zgd (0 ≤ y3 ∧ y3 < 256) (zbr (M0 (zfr k l0 55) y3.toNat) 0 (¬ M0 (zfr k l0 55) y3.toNat = 0) (zlt (y2 + 1) (fun x8 => zb1 (f_X11_kindOf k l0 y3 M0) (fun v9 => zgd (0 ≤ v9 ∧ v9 < 16) (zgd (0 ≤ v9 ∧ v9 < 16) (zlt (zst M0 (zfr k l0 71) v9.toNat ((M0 (zfr k l0 71) v9.toNat) + 1)) (fun M11 => zlt (y3 + 1) (fun x12 => some (.inl (x8, x12, M11))))))))) (zlt (y3 + 1) (fun x13 => some (.inl (y2, x13, M0))))))
def fb_X11_unlike_105 (k : zK)  (l0 : Nat) (l2 : Int) (y3 : Int) (M0 : zM) : Option ((Int × zM) ⊕ (zM)) :=
  zgd (0 ≤ (0 : Int) ∧ (0 : Int) < 4) (zbr y3 (M0 (zfr k l0 1) (Int.toNat 0)) (M0 (zfr k l0 1) (Int.toNat 0) ≤ y3) (some (.inr M0)) (zgd (0 ≤ y3 ∧ y3 < 320) (zgd (0 ≤ M0 (zfr k l0 9) y3.toNat ∧ M0 (zfr k l0 9) y3.toNat < 16) (zgd (0 ≤ M0 (zfr k l0 9) y3.toNat ∧ M0 (zfr k l0 9) y3.toNat < 16) (zlt (zst M0 (zfr k l0 72) (M0 (zfr k l0 9) y3.toNat).toNat ((M0 (zfr k l0 72) (M0 (zfr k l0 9) y3.toNat).toNat) + 1)) (fun M16 => zlt (y3 + 1) (fun x17 => some (.inl (x17, M16)))))))))
def fb_X11_unlike_141 (k : zK)  (l0 : Nat) (l2 : Int) (M0 : zM) (y3 : Int) (y4 : Int) : Option ((Int × Int) ⊕ (Int)) :=
  zbr y4 16 (16 ≤ y4) (some (.inr y3)) (zgd (0 ≤ y4 ∧ y4 < 16) (zgd ((0 ≤ 1000 * (M0 (zfr k l0 71) y4.toNat) ∧ 1000 * (M0 (zfr k l0 71) y4.toNat) ≤ 2147483647) ∧ 0 < l2 ∧ l2 ≤ 2147483647) (zgd (0 ≤ y4 ∧ y4 < 16) (zgd (0 ≤ (0 : Int) ∧ (0 : Int) < 4) (zgd ((0 ≤ 1000 * (M0 (zfr k l0 72) y4.toNat) ∧ 1000 * (M0 (zfr k l0 72) y4.toNat) ≤ 2147483647) ∧ 0 < M0 (zfr k l0 1) (Int.toNat 0) ∧ M0 (zfr k l0 1) (Int.toNat 0) ≤ 2147483647) (zb1 (f_X11_distance k ((1000 * (M0 (zfr k l0 71) y4.toNat)) / l2) ((1000 * (M0 (zfr k l0 72) y4.toNat)) / (M0 (zfr k l0 1) (Int.toNat 0))) M0) (fun v19 => zlt (y3 + v19) (fun x21 => zlt (y4 + 1) (fun x22 => some (.inl (x21, x22)))))))))))
def f_X11_unlike (k : zK)  (p0 : Nat) (p1 : Int) (M0 : zM) : Option (zM × Int) :=
  zb1 (f_X11_isAge k p1 M0) (fun v1 => zbr v1 0 (v1 = 0) (some (M0, (-1))) (zgd (0 ≤ (0 : Int) ∧ (0 : Int) < 4) (zbr (M0 (zfr k p0 1) (Int.toNat 0)) 0 (¬ M0 (zfr k p0 1) (Int.toNat 0) = 0) (zb1 (f_X11_finds k p0 p1 M0) (fun M3 => zb1 (zw2 (fb_X11_unlike_27 k p0 0) zfu 0 M3) (fun M7 => zb2 (zw3 (fb_X11_unlike_55 k p0) zfu 0 0 M7) (fun x14 M15 => zbr x14 0 (¬ x14 = 0) (zb1 (zw2 (fb_X11_unlike_105 k p0 x14) zfu 0 M15) (fun M18 => zb1 (zw2 (fb_X11_unlike_141 k p0 x14 M18) zfu 0 0) (fun x23 => some (M18, x23)))) (some (M15, (-1))))))) (some (M0, (-1))))))
theorem vl_X11_unlike_27 {κ : zC} {w : zW} (hw : zWk w)  (l0 : Nat) (l2 : Int) (g0 : ztag w.1 l0 = 12)  (E : (zM) → Prop) (hX : ∀  (M1 : zM), E M1 → zB cX11_unlike RX11 5 (some .int) κ w (0, 0, 4) 53 [(0, rn w l0), (2, iv l2)] [] M1)  (y3 : Int) (M0 : zM) :
    zV cX11_unlike RX11 5 (some .int) κ w (0, 0, 4) 27 [(3, iv y3), (0, rn w l0), (2, iv l2)] [] M0 (zw2 (fb_X11_unlike_27 w.1 l0 l2) zfu y3 M0) E := by
  have hT := hw.1
  refine zv_loop2 (fun y3 M0 => [(3, iv y3), (0, rn w l0), (2, iv l2)]) (fun y3 M0 => M0) (fun y3 M0 => ?_) y3 M0
  unfold fb_X11_unlike_27
  refine zv_iload_n dX11_unlike_27 0 rfl ?_
  refine zv_bipush (z := 16) dX11_unlike_28 (by decide) ?_
  refine zv_icmp_ge (tgt := 53) dX11_unlike_30 (by decide) ?_ ?_
  · exact zv_sub (L' := [(0, rn w l0), (2, iv l2)]) [1, 2] rfl (zv_exit (fun h => hX _ h))
  refine zv_rload_n dX11_unlike_33 1 rfl ?_
  refine zg_RX11_166 dX11_unlike_34 g0 ?_
  refine zv_iload_n dX11_unlike_37 0 rfl ?_
  refine zv_iconst (z := 0) dX11_unlike_38 ?_
  refine zv_iast dX11_unlike_39 (zta_11_71 hT g0) (ztl_11_71 hT g0) (by decide) (fun M4 => ?_)
  refine zv_rload_n dX11_unlike_40 1 rfl ?_
  refine zg_RX11_169 dX11_unlike_41 g0 ?_
  refine zv_iload_n dX11_unlike_44 0 rfl ?_
  refine zv_iconst (z := 0) dX11_unlike_45 ?_
  refine zv_iast dX11_unlike_46 (zta_11_72 hT g0) (ztl_11_72 hT g0) (by decide) (fun M5 => ?_)
  refine zv_iinc dX11_unlike_47 0 rfl (fun x6 => [(3, iv x6), (0, rn w l0), (2, iv l2)]) (by decide) (fun _ => rfl) (fun x6 => ?_)
  refine zv_goto (tgt := 27) dX11_unlike_50 (by decide) ?_
  exact zv_sub (L' := [(3, iv x6), (0, rn w l0), (2, iv l2)]) [0, 1, 2] rfl (zv_exit (fun h => h))
theorem vl_X11_unlike_55 {κ : zC} {w : zW} (hw : zWk w)  (l0 : Nat) (g0 : ztag w.1 l0 = 12)  (E : (Int × zM) → Prop) (hX : ∀ (u2 : Int) (M1 : zM), E (u2, M1) → zB cX11_unlike RX11 5 (some .int) κ w (0, 0, 4) 97 [(0, rn w l0), (2, iv u2)] [] M1)  (y2 : Int) (y3 : Int) (M0 : zM) :
    zV cX11_unlike RX11 5 (some .int) κ w (0, 0, 4) 55 [(2, iv y2), (3, iv y3), (0, rn w l0)] [] M0 (zw3 (fb_X11_unlike_55 w.1 l0) zfu y2 y3 M0) E := by
  have hT := hw.1
  refine zv_loop3 (fun y2 y3 M0 => [(2, iv y2), (3, iv y3), (0, rn w l0)]) (fun y2 y3 M0 => M0) (fun y2 y3 M0 => ?_) y2 y3 M0
  unfold fb_X11_unlike_55
  refine zv_iload_n dX11_unlike_55 1 rfl ?_
  refine zv_sipush (z := 256) dX11_unlike_56 (by decide) ?_
  refine zv_icmp_ge (tgt := 97) dX11_unlike_59 (by decide) ?_ ?_
  · exact zv_sub (L' := [(0, rn w l0), (2, iv y2)]) [2, 0] rfl (zv_exit (fun h => hX _ _ h))
  refine zv_rload_n dX11_unlike_62 2 rfl ?_
  refine zg_RX11_139 dX11_unlike_63 g0 ?_
  refine zv_iload_n dX11_unlike_66 1 rfl ?_
  refine zv_zald dX11_unlike_67 (zta_11_55 hT g0) (ztl_11_55 hT g0) (by decide) ?_
  refine zv_if_ne (tgt := 74) dX11_unlike_68 (by decide) ?_ ?_
  · refine zv_iinc dX11_unlike_74 0 rfl (fun x8 => [(2, iv x8), (3, iv y3), (0, rn w l0)]) (by decide) (fun _ => rfl) (fun x8 => ?_)
    refine zv_rload_n dX11_unlike_77 2 rfl ?_
    refine zg_RX11_166 dX11_unlike_78 g0 ?_
    refine zv_rload_n dX11_unlike_81 2 rfl ?_
    refine zv_iload_n dX11_unlike_82 1 rfl ?_
    refine zv_pc (zv_callVi [iv y3] (c_X11_kindOf κ.2.1 hw l0 y3 M0 g0) zmd_X11_kindOf zwI_X11_kindOf zwS_X11_kindOf zwM_RX11_390 zcd_11 g0 rfl (by decide) rfl (Nat.le_of_ble_eq_true rfl) dX11_unlike_83 (fun mh10 v9 h10 => ?_))
    obtain rfl := zpuE h10
    refine zv_dup2 dX11_unlike_86 rfl rfl ?_
    refine zv_iald dX11_unlike_87 (zta_11_71 hT g0) (ztl_11_71 hT g0) (by decide) ?_
    refine zv_iconst (z := 1) dX11_unlike_88 ?_
    refine zv_iadd dX11_unlike_89 ?_
    refine zv_iast dX11_unlike_90 (zta_11_71 hT g0) (ztl_11_71 hT g0) (by decide) (fun M11 => ?_)
    refine zv_iinc dX11_unlike_91 1 rfl (fun x12 => [(3, iv x12), (2, iv x8), (0, rn w l0)]) (by decide) (fun _ => rfl) (fun x12 => ?_)
    refine zv_goto (tgt := 55) dX11_unlike_94 (by decide) ?_
    exact zv_sub (L' := [(2, iv x8), (3, iv x12), (0, rn w l0)]) [1, 0, 2] rfl (zv_exit (fun h => h))
  refine zv_goto (tgt := 91) dX11_unlike_71 (by decide) ?_
  refine zv_iinc dX11_unlike_91 1 rfl (fun x13 => [(3, iv x13), (2, iv y2), (0, rn w l0)]) (by decide) (fun _ => rfl) (fun x13 => ?_)
  refine zv_goto (tgt := 55) dX11_unlike_94 (by decide) ?_
  exact zv_sub (L' := [(2, iv y2), (3, iv x13), (0, rn w l0)]) [1, 0, 2] rfl (zv_exit (fun h => h))
theorem vl_X11_unlike_105 {κ : zC} {w : zW} (hw : zWk w)  (l0 : Nat) (l2 : Int) (g0 : ztag w.1 l0 = 12)  (E : (zM) → Prop) (hX : ∀  (M1 : zM), E M1 → zB cX11_unlike RX11 5 (some .int) κ w (0, 0, 4) 136 [(0, rn w l0), (2, iv l2)] [] M1)  (y3 : Int) (M0 : zM) :
    zV cX11_unlike RX11 5 (some .int) κ w (0, 0, 4) 105 [(3, iv y3), (0, rn w l0), (2, iv l2)] [] M0 (zw2 (fb_X11_unlike_105 w.1 l0 l2) zfu y3 M0) E := by
  have hT := hw.1
  refine zv_loop2 (fun y3 M0 => [(3, iv y3), (0, rn w l0), (2, iv l2)]) (fun y3 M0 => M0) (fun y3 M0 => ?_) y3 M0
  unfold fb_X11_unlike_105
  refine zv_iload_n dX11_unlike_105 0 rfl ?_
  refine zv_rload_n dX11_unlike_106 1 rfl ?_
  refine zg_RX11_13 dX11_unlike_107 g0 ?_
  refine zv_iconst (z := 0) dX11_unlike_110 ?_
  refine zv_iald dX11_unlike_111 (zta_11_1 hT g0) (ztl_11_1 hT g0) (by decide) ?_
  refine zv_icmp_ge (tgt := 136) dX11_unlike_112 (by decide) ?_ ?_
  · exact zv_sub (L' := [(0, rn w l0), (2, iv l2)]) [1, 2] rfl (zv_exit (fun h => hX _ h))
  refine zv_rload_n dX11_unlike_115 1 rfl ?_
  refine zg_RX11_169 dX11_unlike_116 g0 ?_
  refine zv_rload_n dX11_unlike_119 1 rfl ?_
  refine zg_RX11_37 dX11_unlike_120 g0 ?_
  refine zv_iload_n dX11_unlike_123 0 rfl ?_
  refine zv_iald dX11_unlike_124 (zta_11_9 hT g0) (ztl_11_9 hT g0) (by decide) ?_
  refine zv_dup2 dX11_unlike_125 rfl rfl ?_
  refine zv_iald dX11_unlike_126 (zta_11_72 hT g0) (ztl_11_72 hT g0) (by decide) ?_
  refine zv_iconst (z := 1) dX11_unlike_127 ?_
  refine zv_iadd dX11_unlike_128 ?_
  refine zv_iast dX11_unlike_129 (zta_11_72 hT g0) (ztl_11_72 hT g0) (by decide) (fun M16 => ?_)
  refine zv_iinc dX11_unlike_130 0 rfl (fun x17 => [(3, iv x17), (0, rn w l0), (2, iv l2)]) (by decide) (fun _ => rfl) (fun x17 => ?_)
  refine zv_goto (tgt := 105) dX11_unlike_133 (by decide) ?_
  exact zv_sub (L' := [(3, iv x17), (0, rn w l0), (2, iv l2)]) [0, 1, 2] rfl (zv_exit (fun h => h))
theorem vl_X11_unlike_141 {κ : zC} {w : zW} (hw : zWk w)  (l0 : Nat) (l2 : Int) (g0 : ztag w.1 l0 = 12) (M0 : zM) (E : (Int) → Prop) (hX : ∀ (u3 : Int), E u3 → zB cX11_unlike RX11 5 (some .int) κ w (0, 0, 4) 191 [(3, iv u3)] [] M0)  (y3 : Int) (y4 : Int) :
    zV cX11_unlike RX11 5 (some .int) κ w (0, 0, 4) 141 [(3, iv y3), (4, iv y4), (0, rn w l0), (2, iv l2)] [] M0 (zw2 (fb_X11_unlike_141 w.1 l0 l2 M0) zfu y3 y4) E := by
  have hT := hw.1
  refine zv_loop2 (fun y3 y4 => [(3, iv y3), (4, iv y4), (0, rn w l0), (2, iv l2)]) (fun y3 y4 => M0) (fun y3 y4 => ?_) y3 y4
  unfold fb_X11_unlike_141
  refine zv_iload dX11_unlike_141 1 rfl ?_
  refine zv_bipush (z := 16) dX11_unlike_143 (by decide) ?_
  refine zv_icmp_ge (tgt := 191) dX11_unlike_145 (by decide) ?_ ?_
  · exact zv_sub (L' := [(3, iv y3)]) [0] rfl (zv_exit (fun h => hX _ h))
  refine zv_iload_n dX11_unlike_148 0 rfl ?_
  refine zv_sipush (z := 1000) dX11_unlike_149 (by decide) ?_
  refine zv_rload_n dX11_unlike_152 2 rfl ?_
  refine zg_RX11_166 dX11_unlike_153 g0 ?_
  refine zv_iload dX11_unlike_156 1 rfl ?_
  refine zv_iald dX11_unlike_158 (zta_11_71 hT g0) (ztl_11_71 hT g0) (by decide) ?_
  refine zv_imul dX11_unlike_159 ?_
  refine zv_iload_n dX11_unlike_160 3 rfl ?_
  refine zv_idiv dX11_unlike_161 ?_
  refine zv_sipush (z := 1000) dX11_unlike_162 (by decide) ?_
  refine zv_rload_n dX11_unlike_165 2 rfl ?_
  refine zg_RX11_169 dX11_unlike_166 g0 ?_
  refine zv_iload dX11_unlike_169 1 rfl ?_
  refine zv_iald dX11_unlike_171 (zta_11_72 hT g0) (ztl_11_72 hT g0) (by decide) ?_
  refine zv_imul dX11_unlike_172 ?_
  refine zv_rload_n dX11_unlike_173 2 rfl ?_
  refine zg_RX11_13 dX11_unlike_174 g0 ?_
  refine zv_iconst (z := 0) dX11_unlike_177 ?_
  refine zv_iald dX11_unlike_178 (zta_11_1 hT g0) (ztl_11_1 hT g0) (by decide) ?_
  refine zv_idiv dX11_unlike_179 ?_
  refine zv_pc (zv_callSi [iv ((1000 * (M0 (zfr w.1 l0 71) y4.toNat)) / l2), iv ((1000 * (M0 (zfr w.1 l0 72) y4.toNat)) / (M0 (zfr w.1 l0 1) (Int.toNat 0)))] (c_X11_distance κ.2.1 hw ((1000 * (M0 (zfr w.1 l0 71) y4.toNat)) / l2) ((1000 * (M0 (zfr w.1 l0 72) y4.toNat)) / (M0 (zfr w.1 l0 1) (Int.toNat 0))) M0 ) zmd_X11_distance zwT_X11_distance zwM_RX11_505 rfl (by decide) rfl (Nat.le_of_ble_eq_true rfl) dX11_unlike_180 (fun mh20 v19 h20 => ?_))
  obtain rfl := zpuE h20
  refine zv_iadd dX11_unlike_183 ?_
  refine zv_istore_n (i := 3) (by rfl) dX11_unlike_184 (fun x21 => [(3, iv x21), (4, iv y4), (0, rn w l0), (2, iv l2)]) (by decide) (fun _ => rfl) (fun x21 => ?_)
  refine zv_iinc dX11_unlike_185 1 rfl (fun x22 => [(4, iv x22), (3, iv x21), (0, rn w l0), (2, iv l2)]) (by decide) (fun _ => rfl) (fun x22 => ?_)
  refine zv_goto (tgt := 141) dX11_unlike_188 (by decide) ?_
  exact zv_sub (L' := [(3, iv x21), (4, iv x22), (0, rn w l0), (2, iv l2)]) [1, 0, 2, 3] rfl (zv_exit (fun h => h))
theorem c_X11_unlike (l : Launch) {w : zW} (hw : zWk w)  (p0 : Nat) (p1 : Int) (M0 : zM) (hp0 : ztag w.1 p0 = 12) : zCn l yX11_unlike cX11_unlike 5 (some .int) (4) 1 w [rn w p0, iv p1] M0 (f_X11_unlike w.1 p0 p1 M0) := by
  have hT := hw.1
  refine zCn_of (own := RX11) (by decide) rfl hw (Nat.le_of_ble_eq_true rfl) [(0, rn w p0), (1, iv p1)] rfl ?_
  intro κ hl
  subst hl
  unfold f_X11_unlike
  refine zv_iload_n dX11_unlike_0 1 rfl ?_
  refine zv_pc (zv_callSi [iv p1] (c_X11_isAge κ.2.1 hw p1 M0 ) zmd_X11_isAge zwT_X11_isAge zwM_RX11_335 rfl (by decide) rfl (Nat.le_of_ble_eq_true rfl) dX11_unlike_1 (fun mh2 v1 h2 => ?_))
  obtain rfl := zpuE h2
  refine zv_if_eq (tgt := 16) dX11_unlike_4 (by decide) ?_ ?_
  · refine zv_iconst (z := (-1)) dX11_unlike_16 ?_
    exact zv_ret (fun h => h) (zv_iret dX11_unlike_17)
  refine zv_rload_n dX11_unlike_7 0 rfl ?_
  refine zg_RX11_13 dX11_unlike_8 hp0 ?_
  refine zv_iconst (z := 0) dX11_unlike_11 ?_
  refine zv_iald dX11_unlike_12 (zta_11_1 hT hp0) (ztl_11_1 hT hp0) (by decide) ?_
  refine zv_if_ne (tgt := 18) dX11_unlike_13 (by decide) ?_ ?_
  · refine zv_rload_n dX11_unlike_18 0 rfl ?_
    refine zv_iload_n dX11_unlike_19 1 rfl ?_
    refine zv_vc (zv_callVv [iv p1] (c_X11_finds κ.2.1 hw p0 p1 M0 hp0) zmd_X11_finds zwI_X11_finds zwS_X11_finds zwM_RX11_385 zcd_11 hp0 rfl (by decide) rfl (Nat.le_of_ble_eq_true rfl) dX11_unlike_20 (fun M3 _ _ => ?_))
    refine zv_iconst (z := 0) dX11_unlike_23 ?_
    refine zv_istore_np (L' := [(2, iv 0), (0, rn w p0), (1, iv p1)]) (by rfl) dX11_unlike_24 (by decide) rfl ?_
    refine zv_iconst (z := 0) dX11_unlike_25 ?_
    refine zv_istore_np (L' := [(3, iv 0), (2, iv 0), (0, rn w p0), (1, iv p1)]) (by rfl) dX11_unlike_26 (by decide) rfl ?_
    refine zv_join1 53 (fun M7 => [(0, rn w p0), (2, iv 0)]) (fun M7 => []) (fun M7 => M7) (zv_sub (L' := [(3, iv 0), (0, rn w p0), (2, iv 0)]) [0, 2, 1] rfl (vl_X11_unlike_27 hw p0 0 hp0 _ (fun _ h => h) 0 M3)) (fun M7 => ?_)
    refine zv_iconst (z := 0) dX11_unlike_53 ?_
    refine zv_istore_np (L' := [(3, iv 0), (0, rn w p0), (2, iv 0)]) (by rfl) dX11_unlike_54 (by decide) rfl ?_
    refine zv_join2 97 (fun x14 M15 => [(0, rn w p0), (2, iv x14)]) (fun x14 M15 => []) (fun x14 M15 => M15) (zv_sub (L' := [(2, iv 0), (3, iv 0), (0, rn w p0)]) [2, 0, 1] rfl (vl_X11_unlike_55 hw p0 hp0 _ (fun _ _ h => h) 0 0 M7)) (fun x14 M15 => ?_)
    refine zv_iload_n dX11_unlike_97 1 rfl ?_
    refine zv_if_ne (tgt := 103) dX11_unlike_98 (by decide) ?_ ?_
    · refine zv_iconst (z := 0) dX11_unlike_103 ?_
      refine zv_istore_np (L' := [(3, iv 0), (0, rn w p0), (2, iv x14)]) (by rfl) dX11_unlike_104 (by decide) rfl ?_
      refine zv_join1 136 (fun M18 => [(0, rn w p0), (2, iv x14)]) (fun M18 => []) (fun M18 => M18) (zv_sub (L' := [(3, iv 0), (0, rn w p0), (2, iv x14)]) [0, 1, 2] rfl (vl_X11_unlike_105 hw p0 x14 hp0 _ (fun _ h => h) 0 M15)) (fun M18 => ?_)
      refine zv_iconst (z := 0) dX11_unlike_136 ?_
      refine zv_istore_np (L' := [(3, iv 0), (0, rn w p0), (2, iv x14)]) (by rfl) dX11_unlike_137 (by decide) rfl ?_
      refine zv_iconst (z := 0) dX11_unlike_138 ?_
      refine zv_istore_p (L' := [(4, iv 0), (3, iv 0), (0, rn w p0), (2, iv x14)]) dX11_unlike_139 (by decide) rfl ?_
      refine zv_join1 191 (fun x23 => [(3, iv x23)]) (fun x23 => []) (fun x23 => M18) (zv_sub (L' := [(3, iv 0), (4, iv 0), (0, rn w p0), (2, iv x14)]) [1, 0, 2, 3] rfl (vl_X11_unlike_141 hw p0 x14 hp0 M18 _ (fun _ h => h) 0 0)) (fun x23 => ?_)
      refine zv_iload_n dX11_unlike_191 0 rfl ?_
      exact zv_ret (fun h => h) (zv_iret dX11_unlike_192)
    refine zv_iconst (z := (-1)) dX11_unlike_101 ?_
    exact zv_ret (fun h => h) (zv_iret dX11_unlike_102)
  refine zv_iconst (z := (-1)) dX11_unlike_16 ?_
  exact zv_ret (fun h => h) (zv_iret dX11_unlike_17)
def fb_X11_world_61 (k : zK)  (l0 : Nat) (l1 : Int) (l2 : Int) (l3 : Int) (l4 : Int) (l5 : Int) (M0 : zM) (y6 : Int) (y7 : Int) : Option ((Int × Int) ⊕ (Int)) :=
  zbr y7 256 (256 ≤ y7) (some (.inr y6)) (zgd (0 ≤ y7 ∧ y7 < 256) (zlt (y6 + (M0 (zfr k l0 69) y7.toNat)) (fun x12 => zlt (y7 + 1) (fun x13 => some (.inl (x12, x13))))))
def fb_X11_world_131 (k : zK)  (l0 : Nat) (l2 : Int) (l3 : Int) (l4 : Int) (l5 : Int) (l6 : Int) (l7 : Int) (l8 : Int) (l9 : Int) (M0 : zM) (y10 : Int) (y11 : Int) : Option ((Int × Int) ⊕ (Int)) :=
  zbr y11 l9 (l9 < y11) (some (.inr y10)) (zlt (y10 + 1) (fun x19 => zgd (0 ≤ x19 ∧ x19 < 256) (zlt (y11 + (M0 (zfr k l0 69) x19.toNat)) (fun x20 => some (.inl (x19, x20))))))
def fb_X11_world_106 (k : zK)  (l0 : Nat) (l2 : Int) (l3 : Int) (l4 : Int) (l5 : Int) (l6 : Int) (y7 : Int) (y8 : Int) (M0 : zM) : Option ((Int × Int × zM) ⊕ (Int × zM)) :=
  zbr y8 l3 (l3 ≤ y8) (some (.inr (y7, M0))) (zbd (f_X11_draw k l0 l6 M0) (fun M17 v16 => zgd (0 ≤ (0 : Int) ∧ (0 : Int) < 256) (zlt (M17 (zfr k l0 69) (Int.toNat 0)) (fun x18 => zb1 (zw2 (fb_X11_world_131 k l0 l2 l3 l4 l5 l6 y7 y8 v16 M17) zfu 0 x18) (fun x21 => zbd (f_X11_by k l0 4 x21 l2 M17) (fun M23 v22 => zbd (f_X11_draw k l0 100 M23) (fun M25 v24 => zb1 (zbr v24 v22 (v22 ≤ v24) (some (0)) (some (1))) (fun x26 => zsp1 (zbr x26 0 (x26 = 0) (some (.inl y8)) (zbr x21 l4 (¬ x21 = l4) (some (.inl y8)) (zlt (zo_or y7 1) (fun x27 => zlt (y8 + 1) (fun x28 => some (.inr (.inl (x27, x28, M25)))))))) (fun r => some r) (fun x29 => zlt (zo_or y7 0) (fun x30 => zlt (x29 + 1) (fun x31 => some (.inl (x30, x31, M25)))))))))))))
def fb_X11_world_218 (k : zK)  (l0 : Nat) (l5 : Int) (l7 : Int) (y8 : Int) (y9 : Int) (M0 : zM) : Option ((Int × Int × zM) ⊕ (Int × zM)) :=
  zbr y9 l5 (l5 ≤ y9) (some (.inr (y8, M0))) (zbd (f_X11_draw k l0 10 M0) (fun M35 v34 => zb1 (f_X11_catches k l0 M35) (fun v36 => zsp1 (zbr v34 v36 (v36 ≤ v34) (some (.inl y9)) (zbr l7 0 (l7 = 0) (some (.inl y9)) (zlt (y8 + 1) (fun x38 => zlt (y9 + 1) (fun x39 => some (.inr (.inl (x38, x39, M35)))))))) (fun r => some r) (fun x40 => zlt (y8 + 0) (fun x41 => zlt (x40 + 1) (fun x42 => some (.inl (x41, x42, M35))))))))
def f_X11_world (k : zK)  (p0 : Nat) (p1 : Int) (p2 : Int) (p3 : Int) (p4 : Int) (p5 : Int) (M0 : zM) : Option (zM × Int) :=
  zb1 (f_X11_within k p1 0 999999999 M0) (fun v1 => zbr v1 0 (v1 = 0) (some (M0, (-1))) (zb1 (f_X11_isAge k p2 M0) (fun v3 => zbr v3 0 (v3 = 0) (some (M0, (-1))) (zb1 (f_X11_within k p3 1 200 M0) (fun v5 => zbr v5 0 (v5 = 0) (some (M0, (-1))) (zb1 (f_X11_isCell k p4 M0) (fun v7 => zbr v7 0 (v7 = 0) (some (M0, (-1))) (zb1 (f_X11_within k p5 0 99 M0) (fun v9 => zbr v9 0 (¬ v9 = 0) (zb1 (f_X11_findLives k p0 p2 M0) (fun M11 => zb1 (zw2 (fb_X11_world_61 k p0 p1 p2 p3 p4 p5 M11) zfu 0 0) (fun x14 => zbr x14 0 (¬ x14 = 0) (zgd (zr p1) (zlt (zst M11 p0 70 p1) (fun M15 => zb2 (zw3 (fb_X11_world_106 k p0 p2 p3 p4 p5 x14) zfu 0 0 M15) (fun x32 M33 => zb2 (zw3 (fb_X11_world_218 k p0 p5 x32) zfu 0 0 M33) (fun x43 M44 => some (M44, x43)))))) (some (M11, (-1)))))) (some (M0, (-1))))))))))))
theorem vl_X11_world_61 {κ : zC} {w : zW} (hw : zWk w)  (l0 : Nat) (l1 : Int) (l2 : Int) (l3 : Int) (l4 : Int) (l5 : Int) (g0 : ztag w.1 l0 = 12) (M0 : zM) (E : (Int) → Prop) (hX : ∀ (u6 : Int), E u6 → zB cX11_world RX11 14 (some .int) κ w (0, 0, 5) 87 [(0, rn w l0), (1, iv l1), (2, iv l2), (3, iv l3), (4, iv l4), (5, iv l5), (6, iv u6)] [] M0)  (y6 : Int) (y7 : Int) :
    zV cX11_world RX11 14 (some .int) κ w (0, 0, 5) 61 [(6, iv y6), (7, iv y7), (0, rn w l0), (1, iv l1), (2, iv l2), (3, iv l3), (4, iv l4), (5, iv l5)] [] M0 (zw2 (fb_X11_world_61 w.1 l0 l1 l2 l3 l4 l5 M0) zfu y6 y7) E := by
  have hT := hw.1
  refine zv_loop2 (fun y6 y7 => [(6, iv y6), (7, iv y7), (0, rn w l0), (1, iv l1), (2, iv l2), (3, iv l3), (4, iv l4), (5, iv l5)]) (fun y6 y7 => M0) (fun y6 y7 => ?_) y6 y7
  unfold fb_X11_world_61
  refine zv_iload dX11_world_61 1 rfl ?_
  refine zv_sipush (z := 256) dX11_world_63 (by decide) ?_
  refine zv_icmp_ge (tgt := 87) dX11_world_66 (by decide) ?_ ?_
  · exact zv_sub (L' := [(0, rn w l0), (1, iv l1), (2, iv l2), (3, iv l3), (4, iv l4), (5, iv l5), (6, iv y6)]) [2, 3, 4, 5, 6, 7, 0] rfl (zv_exit (fun h => hX _ h))
  refine zv_iload dX11_world_69 0 rfl ?_
  refine zv_rload_n dX11_world_71 2 rfl ?_
  refine zg_RX11_163 dX11_world_72 g0 ?_
  refine zv_iload dX11_world_75 1 rfl ?_
  refine zv_iald dX11_world_77 (zta_11_69 hT g0) (ztl_11_69 hT g0) (by decide) ?_
  refine zv_iadd dX11_world_78 ?_
  refine zv_istore dX11_world_79 (fun x12 => [(6, iv x12), (7, iv y7), (0, rn w l0), (1, iv l1), (2, iv l2), (3, iv l3), (4, iv l4), (5, iv l5)]) (by decide) (fun _ => rfl) (fun x12 => ?_)
  refine zv_iinc dX11_world_81 1 rfl (fun x13 => [(7, iv x13), (6, iv x12), (0, rn w l0), (1, iv l1), (2, iv l2), (3, iv l3), (4, iv l4), (5, iv l5)]) (by decide) (fun _ => rfl) (fun x13 => ?_)
  refine zv_goto (tgt := 61) dX11_world_84 (by decide) ?_
  exact zv_sub (L' := [(6, iv x12), (7, iv x13), (0, rn w l0), (1, iv l1), (2, iv l2), (3, iv l3), (4, iv l4), (5, iv l5)]) [1, 0, 2, 3, 4, 5, 6, 7] rfl (zv_exit (fun h => h))
theorem vl_X11_world_131 {κ : zC} {w : zW} (hw : zWk w)  (l0 : Nat) (l2 : Int) (l3 : Int) (l4 : Int) (l5 : Int) (l6 : Int) (l7 : Int) (l8 : Int) (l9 : Int) (g0 : ztag w.1 l0 = 12) (M0 : zM) (E : (Int) → Prop) (hX : ∀ (u10 : Int), E u10 → zB cX11_world RX11 14 (some .int) κ w (0, 0, 5) 156 [(0, rn w l0), (2, iv l2), (3, iv l3), (4, iv l4), (5, iv l5), (6, iv l6), (7, iv l7), (8, iv l8), (10, iv u10)] [] M0)  (y10 : Int) (y11 : Int) :
    zV cX11_world RX11 14 (some .int) κ w (0, 0, 5) 131 [(10, iv y10), (11, iv y11), (0, rn w l0), (2, iv l2), (3, iv l3), (4, iv l4), (5, iv l5), (6, iv l6), (7, iv l7), (8, iv l8), (9, iv l9)] [] M0 (zw2 (fb_X11_world_131 w.1 l0 l2 l3 l4 l5 l6 l7 l8 l9 M0) zfu y10 y11) E := by
  have hT := hw.1
  refine zv_loop2 (fun y10 y11 => [(10, iv y10), (11, iv y11), (0, rn w l0), (2, iv l2), (3, iv l3), (4, iv l4), (5, iv l5), (6, iv l6), (7, iv l7), (8, iv l8), (9, iv l9)]) (fun y10 y11 => M0) (fun y10 y11 => ?_) y10 y11
  unfold fb_X11_world_131
  refine zv_iload dX11_world_131 1 rfl ?_
  refine zv_iload dX11_world_133 10 rfl ?_
  refine zv_icmp_gt (tgt := 156) dX11_world_135 (by decide) ?_ ?_
  · exact zv_sub (L' := [(0, rn w l0), (2, iv l2), (3, iv l3), (4, iv l4), (5, iv l5), (6, iv l6), (7, iv l7), (8, iv l8), (10, iv y10)]) [2, 3, 4, 5, 6, 7, 8, 9, 0] rfl (zv_exit (fun h => hX _ h))
  refine zv_iinc dX11_world_138 0 rfl (fun x19 => [(10, iv x19), (11, iv y11), (0, rn w l0), (2, iv l2), (3, iv l3), (4, iv l4), (5, iv l5), (6, iv l6), (7, iv l7), (8, iv l8), (9, iv l9)]) (by decide) (fun _ => rfl) (fun x19 => ?_)
  refine zv_iload dX11_world_141 1 rfl ?_
  refine zv_rload_n dX11_world_143 2 rfl ?_
  refine zg_RX11_163 dX11_world_144 g0 ?_
  refine zv_iload dX11_world_147 0 rfl ?_
  refine zv_iald dX11_world_149 (zta_11_69 hT g0) (ztl_11_69 hT g0) (by decide) ?_
  refine zv_iadd dX11_world_150 ?_
  refine zv_istore dX11_world_151 (fun x20 => [(11, iv x20), (10, iv x19), (0, rn w l0), (2, iv l2), (3, iv l3), (4, iv l4), (5, iv l5), (6, iv l6), (7, iv l7), (8, iv l8), (9, iv l9)]) (by decide) (fun _ => rfl) (fun x20 => ?_)
  refine zv_goto (tgt := 131) dX11_world_153 (by decide) ?_
  exact zv_sub (L' := [(10, iv x19), (11, iv x20), (0, rn w l0), (2, iv l2), (3, iv l3), (4, iv l4), (5, iv l5), (6, iv l6), (7, iv l7), (8, iv l8), (9, iv l9)]) [1, 0, 2, 3, 4, 5, 6, 7, 8, 9, 10] rfl (zv_exit (fun h => h))
set_option maxRecDepth 20000 in
theorem vl_X11_world_106 {κ : zC} {w : zW} (hw : zWk w)  (l0 : Nat) (l2 : Int) (l3 : Int) (l4 : Int) (l5 : Int) (l6 : Int) (g0 : ztag w.1 l0 = 12)  (E : (Int × zM) → Prop) (hX : ∀ (u7 : Int) (M1 : zM), E (u7, M1) → zB cX11_world RX11 14 (some .int) κ w (0, 0, 5) 212 [(0, rn w l0), (5, iv l5), (7, iv u7)] [] M1)  (y7 : Int) (y8 : Int) (M0 : zM) :
    zV cX11_world RX11 14 (some .int) κ w (0, 0, 5) 106 [(7, iv y7), (8, iv y8), (0, rn w l0), (2, iv l2), (3, iv l3), (4, iv l4), (5, iv l5), (6, iv l6)] [] M0 (zw3 (fb_X11_world_106 w.1 l0 l2 l3 l4 l5 l6) zfu y7 y8 M0) E := by
  have hT := hw.1
  refine zv_loop3 (fun y7 y8 M0 => [(7, iv y7), (8, iv y8), (0, rn w l0), (2, iv l2), (3, iv l3), (4, iv l4), (5, iv l5), (6, iv l6)]) (fun y7 y8 M0 => M0) (fun y7 y8 M0 => ?_) y7 y8 M0
  unfold fb_X11_world_106
  refine zv_iload dX11_world_106 1 rfl ?_
  refine zv_iload_n dX11_world_108 4 rfl ?_
  refine zv_icmp_ge (tgt := 212) dX11_world_109 (by decide) ?_ ?_
  · exact zv_sub (L' := [(0, rn w l0), (5, iv l5), (7, iv y7)]) [2, 6, 0] rfl (zv_exit (fun h => hX _ _ h))
  refine zv_rload_n dX11_world_112 2 rfl ?_
  refine zv_iload dX11_world_113 7 rfl ?_
  refine (zv_callVi [iv l6] (c_X11_draw κ.2.1 hw l0 l6 M0 g0) zmd_X11_draw zwI_X11_draw zwS_X11_draw zwM_RX11_491 zcd_11 g0 rfl (by decide) rfl (Nat.le_of_ble_eq_true rfl) dX11_world_115 (fun M17 v16 _ => ?_))
  refine zv_istore_p (L' := [(9, iv v16), (7, iv y7), (8, iv y8), (0, rn w l0), (2, iv l2), (3, iv l3), (4, iv l4), (5, iv l5), (6, iv l6)]) dX11_world_118 (by decide) rfl ?_
  refine zv_iconst (z := 0) dX11_world_120 ?_
  refine zv_istore_p (L' := [(10, iv 0), (9, iv v16), (7, iv y7), (8, iv y8), (0, rn w l0), (2, iv l2), (3, iv l3), (4, iv l4), (5, iv l5), (6, iv l6)]) dX11_world_121 (by decide) rfl ?_
  refine zv_rload_n dX11_world_123 4 rfl ?_
  refine zg_RX11_163 dX11_world_124 g0 ?_
  refine zv_iconst (z := 0) dX11_world_127 ?_
  refine zv_iald dX11_world_128 (zta_11_69 hT g0) (ztl_11_69 hT g0) (by decide) ?_
  refine zv_istore dX11_world_129 (fun x18 => [(11, iv x18), (10, iv 0), (9, iv v16), (7, iv y7), (8, iv y8), (0, rn w l0), (2, iv l2), (3, iv l3), (4, iv l4), (5, iv l5), (6, iv l6)]) (by decide) (fun _ => rfl) (fun x18 => ?_)
  refine zv_join1 156 (fun x21 => [(0, rn w l0), (2, iv l2), (3, iv l3), (4, iv l4), (5, iv l5), (6, iv l6), (7, iv y7), (8, iv y8), (10, iv x21)]) (fun x21 => []) (fun x21 => M17) (zv_sub (L' := [(10, iv 0), (11, iv x18), (0, rn w l0), (2, iv l2), (3, iv l3), (4, iv l4), (5, iv l5), (6, iv l6), (7, iv y7), (8, iv y8), (9, iv v16)]) [1, 0, 5, 6, 7, 8, 9, 10, 3, 4, 2] rfl (vl_X11_world_131 hw l0 l2 l3 l4 l5 l6 y7 y8 v16 g0 M17 _ (fun _ h => h) 0 x18)) (fun x21 => ?_)
  refine zv_rload_n dX11_world_156 0 rfl ?_
  refine zv_iconst (z := 4) dX11_world_157 ?_
  refine zv_iload dX11_world_158 8 rfl ?_
  refine zv_iload_n dX11_world_160 1 rfl ?_
  refine (zv_callVi [iv 4, iv x21, iv l2] (c_X11_by κ.2.1 hw l0 4 x21 l2 M17 g0) zmd_X11_by zwI_X11_by zwS_X11_by zwM_RX11_393 zcd_11 g0 rfl (by decide) rfl (Nat.le_of_ble_eq_true rfl) dX11_world_161 (fun M23 v22 _ => ?_))
  refine zv_istore_p (L' := [(12, iv v22), (0, rn w l0), (2, iv l2), (3, iv l3), (4, iv l4), (5, iv l5), (6, iv l6), (7, iv y7), (8, iv y8), (10, iv x21)]) dX11_world_164 (by decide) rfl ?_
  refine zv_rload_n dX11_world_166 1 rfl ?_
  refine zv_bipush (z := 100) dX11_world_167 (by decide) ?_
  refine (zv_callVi [iv 100] (c_X11_draw κ.2.1 hw l0 100 M23 g0) zmd_X11_draw zwI_X11_draw zwS_X11_draw zwM_RX11_491 zcd_11 g0 rfl (by decide) rfl (Nat.le_of_ble_eq_true rfl) dX11_world_169 (fun M25 v24 _ => ?_))
  refine zv_iload dX11_world_172 0 rfl ?_
  refine zv_join1 182 (fun x26 => [(0, rn w l0), (2, iv l2), (3, iv l3), (4, iv l4), (5, iv l5), (6, iv l6), (7, iv y7), (8, iv y8), (10, iv x21)]) (fun x26 => [iv x26]) (fun x26 => M25) ?_ (fun x26 => ?_)
  · refine zv_icmp_ge (tgt := 181) dX11_world_174 (by decide) ?_ ?_
    · refine zv_iconst (z := 0) dX11_world_181 ?_
      exact zv_sub (L' := [(0, rn w l0), (2, iv l2), (3, iv l3), (4, iv l4), (5, iv l5), (6, iv l6), (7, iv y7), (8, iv y8), (10, iv x21)]) [1, 2, 3, 4, 5, 6, 7, 8, 9] rfl (zv_exit (fun h => h))
    refine zv_iconst (z := 1) dX11_world_177 ?_
    refine zv_goto (tgt := 182) dX11_world_178 (by decide) ?_
    exact zv_sub (L' := [(0, rn w l0), (2, iv l2), (3, iv l3), (4, iv l4), (5, iv l5), (6, iv l6), (7, iv y7), (8, iv y8), (10, iv x21)]) [1, 2, 3, 4, 5, 6, 7, 8, 9] rfl (zv_exit (fun h => h))
  refine zv_istore_p (L' := [(13, iv x26), (0, rn w l0), (2, iv l2), (3, iv l3), (4, iv l4), (5, iv l5), (6, iv l6), (7, iv y7), (8, iv y8), (10, iv x21)]) dX11_world_182 (by decide) rfl ?_
  refine zv_iload dX11_world_184 7 rfl ?_
  refine zv_iload dX11_world_186 0 rfl ?_
  refine zv_joinS1 (fun r => r) 202 (fun x29 => [(8, iv x29), (0, rn w l0), (2, iv l2), (3, iv l3), (4, iv l4), (5, iv l5), (6, iv l6)]) (fun x29 => [iv y7]) (fun x29 => M25) ?_ (fun x29 => ?_)
  · refine zv_if_eq (tgt := 202) dX11_world_188 (by decide) ?_ ?_
    · exact zv_sub (L' := [(8, iv y8), (0, rn w l0), (2, iv l2), (3, iv l3), (4, iv l4), (5, iv l5), (6, iv l6)]) [8, 1, 2, 3, 4, 5, 6] rfl (zv_exit (fun h => h))
    refine zv_iload dX11_world_191 9 rfl ?_
    refine zv_iload dX11_world_193 4 rfl ?_
    refine zv_icmp_ne (tgt := 202) dX11_world_195 (by decide) ?_ ?_
    · exact zv_sub (L' := [(8, iv y8), (0, rn w l0), (2, iv l2), (3, iv l3), (4, iv l4), (5, iv l5), (6, iv l6)]) [8, 1, 2, 3, 4, 5, 6] rfl (zv_exit (fun h => h))
    refine zv_iconst (z := 1) dX11_world_198 ?_
    refine zv_goto (tgt := 203) dX11_world_199 (by decide) ?_
    refine zv_ior dX11_world_203 ?_
    refine zv_istore dX11_world_204 (fun x27 => [(7, iv x27), (13, iv x26), (0, rn w l0), (2, iv l2), (3, iv l3), (4, iv l4), (5, iv l5), (6, iv l6), (8, iv y8), (10, iv x21)]) (by decide) (fun _ => rfl) (fun x27 => ?_)
    refine zv_iinc dX11_world_206 8 rfl (fun x28 => [(8, iv x28), (7, iv x27), (13, iv x26), (0, rn w l0), (2, iv l2), (3, iv l3), (4, iv l4), (5, iv l5), (6, iv l6), (10, iv x21)]) (by decide) (fun _ => rfl) (fun x28 => ?_)
    refine zv_goto (tgt := 106) dX11_world_209 (by decide) ?_
    exact zv_sub (L' := [(7, iv x27), (8, iv x28), (0, rn w l0), (2, iv l2), (3, iv l3), (4, iv l4), (5, iv l5), (6, iv l6)]) [1, 0, 3, 4, 5, 6, 7, 8] rfl (zv_exit (fun h => h))
  refine zv_iconst (z := 0) dX11_world_202 ?_
  refine zv_ior dX11_world_203 ?_
  refine zv_istore dX11_world_204 (fun x30 => [(7, iv x30), (8, iv x29), (0, rn w l0), (2, iv l2), (3, iv l3), (4, iv l4), (5, iv l5), (6, iv l6)]) (by decide) (fun _ => rfl) (fun x30 => ?_)
  refine zv_iinc dX11_world_206 1 rfl (fun x31 => [(8, iv x31), (7, iv x30), (0, rn w l0), (2, iv l2), (3, iv l3), (4, iv l4), (5, iv l5), (6, iv l6)]) (by decide) (fun _ => rfl) (fun x31 => ?_)
  refine zv_goto (tgt := 106) dX11_world_209 (by decide) ?_
  exact zv_sub (L' := [(7, iv x30), (8, iv x31), (0, rn w l0), (2, iv l2), (3, iv l3), (4, iv l4), (5, iv l5), (6, iv l6)]) [1, 0, 2, 3, 4, 5, 6, 7] rfl (zv_exit (fun h => h))
theorem vl_X11_world_218 {κ : zC} {w : zW} (hw : zWk w)  (l0 : Nat) (l5 : Int) (l7 : Int) (g0 : ztag w.1 l0 = 12)  (E : (Int × zM) → Prop) (hX : ∀ (u8 : Int) (M1 : zM), E (u8, M1) → zB cX11_world RX11 14 (some .int) κ w (0, 0, 5) 259 [(8, iv u8)] [] M1)  (y8 : Int) (y9 : Int) (M0 : zM) :
    zV cX11_world RX11 14 (some .int) κ w (0, 0, 5) 218 [(8, iv y8), (9, iv y9), (0, rn w l0), (5, iv l5), (7, iv l7)] [] M0 (zw3 (fb_X11_world_218 w.1 l0 l5 l7) zfu y8 y9 M0) E := by
  have hT := hw.1
  refine zv_loop3 (fun y8 y9 M0 => [(8, iv y8), (9, iv y9), (0, rn w l0), (5, iv l5), (7, iv l7)]) (fun y8 y9 M0 => M0) (fun y8 y9 M0 => ?_) y8 y9 M0
  unfold fb_X11_world_218
  refine zv_iload dX11_world_218 1 rfl ?_
  refine zv_iload dX11_world_220 3 rfl ?_
  refine zv_icmp_ge (tgt := 259) dX11_world_222 (by decide) ?_ ?_
  · exact zv_sub (L' := [(8, iv y8)]) [0] rfl (zv_exit (fun h => hX _ _ h))
  refine zv_iload dX11_world_225 0 rfl ?_
  refine zv_rload_n dX11_world_227 2 rfl ?_
  refine zv_bipush (z := 10) dX11_world_228 (by decide) ?_
  refine (zv_callVi [iv 10] (c_X11_draw κ.2.1 hw l0 10 M0 g0) zmd_X11_draw zwI_X11_draw zwS_X11_draw zwM_RX11_491 zcd_11 g0 rfl (by decide) rfl (Nat.le_of_ble_eq_true rfl) dX11_world_230 (fun M35 v34 _ => ?_))
  refine zv_rload_n dX11_world_233 2 rfl ?_
  refine zv_pc (zv_callVi [] (c_X11_catches κ.2.1 hw l0 M35 g0) zmd_X11_catches zwI_X11_catches zwS_X11_catches zwM_RX11_434 zcd_11 g0 rfl (by decide) rfl (Nat.le_of_ble_eq_true rfl) dX11_world_234 (fun mh37 v36 h37 => ?_))
  obtain rfl := zpuE h37
  refine zv_joinS1 (fun r => r) 249 (fun x40 => [(9, iv x40), (0, rn w l0), (5, iv l5), (7, iv l7)]) (fun x40 => [iv y8]) (fun x40 => M35) ?_ (fun x40 => ?_)
  · refine zv_icmp_ge (tgt := 249) dX11_world_237 (by decide) ?_ ?_
    · exact zv_sub (L' := [(9, iv y9), (0, rn w l0), (5, iv l5), (7, iv l7)]) [1, 2, 3, 4] rfl (zv_exit (fun h => h))
    refine zv_iload dX11_world_240 4 rfl ?_
    refine zv_if_eq (tgt := 249) dX11_world_242 (by decide) ?_ ?_
    · exact zv_sub (L' := [(9, iv y9), (0, rn w l0), (5, iv l5), (7, iv l7)]) [1, 2, 3, 4] rfl (zv_exit (fun h => h))
    refine zv_iconst (z := 1) dX11_world_245 ?_
    refine zv_goto (tgt := 250) dX11_world_246 (by decide) ?_
    refine zv_iadd dX11_world_250 ?_
    refine zv_istore dX11_world_251 (fun x38 => [(8, iv x38), (9, iv y9), (0, rn w l0), (5, iv l5), (7, iv l7)]) (by decide) (fun _ => rfl) (fun x38 => ?_)
    refine zv_iinc dX11_world_253 1 rfl (fun x39 => [(9, iv x39), (8, iv x38), (0, rn w l0), (5, iv l5), (7, iv l7)]) (by decide) (fun _ => rfl) (fun x39 => ?_)
    refine zv_goto (tgt := 218) dX11_world_256 (by decide) ?_
    exact zv_sub (L' := [(8, iv x38), (9, iv x39), (0, rn w l0), (5, iv l5), (7, iv l7)]) [1, 0, 2, 3, 4] rfl (zv_exit (fun h => h))
  refine zv_iconst (z := 0) dX11_world_249 ?_
  refine zv_iadd dX11_world_250 ?_
  refine zv_istore dX11_world_251 (fun x41 => [(8, iv x41), (9, iv x40), (0, rn w l0), (5, iv l5), (7, iv l7)]) (by decide) (fun _ => rfl) (fun x41 => ?_)
  refine zv_iinc dX11_world_253 1 rfl (fun x42 => [(9, iv x42), (8, iv x41), (0, rn w l0), (5, iv l5), (7, iv l7)]) (by decide) (fun _ => rfl) (fun x42 => ?_)
  refine zv_goto (tgt := 218) dX11_world_256 (by decide) ?_
  exact zv_sub (L' := [(8, iv x41), (9, iv x42), (0, rn w l0), (5, iv l5), (7, iv l7)]) [1, 0, 2, 3, 4] rfl (zv_exit (fun h => h))
set_option maxRecDepth 20000 in
theorem c_X11_world (l : Launch) {w : zW} (hw : zWk w)  (p0 : Nat) (p1 : Int) (p2 : Int) (p3 : Int) (p4 : Int) (p5 : Int) (M0 : zM) (hp0 : ztag w.1 p0 = 12) : zCn l yX11_world cX11_world 14 (some .int) (5) 1 w [rn w p0, iv p1, iv p2, iv p3, iv p4, iv p5] M0 (f_X11_world w.1 p0 p1 p2 p3 p4 p5 M0) := by
  have hT := hw.1
  refine zCn_of (own := RX11) (by decide) rfl hw (Nat.le_of_ble_eq_true rfl) [(0, rn w p0), (1, iv p1), (2, iv p2), (3, iv p3), (4, iv p4), (5, iv p5)] rfl ?_
  intro κ hl
  subst hl
  unfold f_X11_world
  refine zv_iload_n dX11_world_0 1 rfl ?_
  refine zv_iconst (z := 0) dX11_world_1 ?_
  refine zv_ldcw (z := 999999999) dX11_world_2 zwK_RX11_490 (by decide) ?_
  refine zv_pc (zv_callSi [iv p1, iv 0, iv 999999999] (c_X11_within κ.2.1 hw p1 0 999999999 M0 ) zmd_X11_within zwT_X11_within zwM_RX11_183 rfl (by decide) rfl (Nat.le_of_ble_eq_true rfl) dX11_world_5 (fun mh2 v1 h2 => ?_))
  obtain rfl := zpuE h2
  refine zv_if_eq (tgt := 48) dX11_world_8 (by decide) ?_ ?_
  · refine zv_iconst (z := (-1)) dX11_world_48 ?_
    exact zv_ret (fun h => h) (zv_iret dX11_world_49)
  refine zv_iload_n dX11_world_11 2 rfl ?_
  refine zv_pc (zv_callSi [iv p2] (c_X11_isAge κ.2.1 hw p2 M0 ) zmd_X11_isAge zwT_X11_isAge zwM_RX11_335 rfl (by decide) rfl (Nat.le_of_ble_eq_true rfl) dX11_world_12 (fun mh4 v3 h4 => ?_))
  obtain rfl := zpuE h4
  refine zv_if_eq (tgt := 48) dX11_world_15 (by decide) ?_ ?_
  · refine zv_iconst (z := (-1)) dX11_world_48 ?_
    exact zv_ret (fun h => h) (zv_iret dX11_world_49)
  refine zv_iload_n dX11_world_18 3 rfl ?_
  refine zv_iconst (z := 1) dX11_world_19 ?_
  refine zv_sipush (z := 200) dX11_world_20 (by decide) ?_
  refine zv_pc (zv_callSi [iv p3, iv 1, iv 200] (c_X11_within κ.2.1 hw p3 1 200 M0 ) zmd_X11_within zwT_X11_within zwM_RX11_183 rfl (by decide) rfl (Nat.le_of_ble_eq_true rfl) dX11_world_23 (fun mh6 v5 h6 => ?_))
  obtain rfl := zpuE h6
  refine zv_if_eq (tgt := 48) dX11_world_26 (by decide) ?_ ?_
  · refine zv_iconst (z := (-1)) dX11_world_48 ?_
    exact zv_ret (fun h => h) (zv_iret dX11_world_49)
  refine zv_iload dX11_world_29 4 rfl ?_
  refine zv_pc (zv_callSi [iv p4] (c_X11_isCell κ.2.1 hw p4 M0 ) zmd_X11_isCell zwT_X11_isCell zwM_RX11_191 rfl (by decide) rfl (Nat.le_of_ble_eq_true rfl) dX11_world_31 (fun mh8 v7 h8 => ?_))
  obtain rfl := zpuE h8
  refine zv_if_eq (tgt := 48) dX11_world_34 (by decide) ?_ ?_
  · refine zv_iconst (z := (-1)) dX11_world_48 ?_
    exact zv_ret (fun h => h) (zv_iret dX11_world_49)
  refine zv_iload dX11_world_37 5 rfl ?_
  refine zv_iconst (z := 0) dX11_world_39 ?_
  refine zv_bipush (z := 99) dX11_world_40 (by decide) ?_
  refine zv_pc (zv_callSi [iv p5, iv 0, iv 99] (c_X11_within κ.2.1 hw p5 0 99 M0 ) zmd_X11_within zwT_X11_within zwM_RX11_183 rfl (by decide) rfl (Nat.le_of_ble_eq_true rfl) dX11_world_42 (fun mh10 v9 h10 => ?_))
  obtain rfl := zpuE h10
  refine zv_if_ne (tgt := 50) dX11_world_45 (by decide) ?_ ?_
  · refine zv_rload_n dX11_world_50 0 rfl ?_
    refine zv_iload_n dX11_world_51 2 rfl ?_
    refine zv_vc (zv_callVv [iv p2] (c_X11_findLives κ.2.1 hw p0 p2 M0 hp0) zmd_X11_findLives zwI_X11_findLives zwS_X11_findLives zwM_RX11_477 zcd_11 hp0 rfl (by decide) rfl (Nat.le_of_ble_eq_true rfl) dX11_world_52 (fun M11 _ _ => ?_))
    refine zv_iconst (z := 0) dX11_world_55 ?_
    refine zv_istore_p (L' := [(6, iv 0), (0, rn w p0), (1, iv p1), (2, iv p2), (3, iv p3), (4, iv p4), (5, iv p5)]) dX11_world_56 (by decide) rfl ?_
    refine zv_iconst (z := 0) dX11_world_58 ?_
    refine zv_istore_p (L' := [(7, iv 0), (6, iv 0), (0, rn w p0), (1, iv p1), (2, iv p2), (3, iv p3), (4, iv p4), (5, iv p5)]) dX11_world_59 (by decide) rfl ?_
    refine zv_join1 87 (fun x14 => [(0, rn w p0), (1, iv p1), (2, iv p2), (3, iv p3), (4, iv p4), (5, iv p5), (6, iv x14)]) (fun x14 => []) (fun x14 => M11) (zv_sub (L' := [(6, iv 0), (7, iv 0), (0, rn w p0), (1, iv p1), (2, iv p2), (3, iv p3), (4, iv p4), (5, iv p5)]) [1, 0, 2, 3, 4, 5, 6, 7] rfl (vl_X11_world_61 hw p0 p1 p2 p3 p4 p5 hp0 M11 _ (fun _ h => h) 0 0)) (fun x14 => ?_)
    refine zv_iload dX11_world_87 6 rfl ?_
    refine zv_if_ne (tgt := 94) dX11_world_89 (by decide) ?_ ?_
    · refine zv_rload_n dX11_world_94 0 rfl ?_
      refine zv_iload_n dX11_world_95 1 rfl ?_
      refine zv_i2l dX11_world_96 ?_
      refine zp_RX11_483 dX11_world_97 hp0 (fun M15 => ?_)
      refine zv_iconst (z := 0) dX11_world_100 ?_
      refine zv_istore_p (L' := [(7, iv 0), (0, rn w p0), (1, iv p1), (2, iv p2), (3, iv p3), (4, iv p4), (5, iv p5), (6, iv x14)]) dX11_world_101 (by decide) rfl ?_
      refine zv_iconst (z := 0) dX11_world_103 ?_
      refine zv_istore_p (L' := [(8, iv 0), (7, iv 0), (0, rn w p0), (1, iv p1), (2, iv p2), (3, iv p3), (4, iv p4), (5, iv p5), (6, iv x14)]) dX11_world_104 (by decide) rfl ?_
      refine zv_join2 212 (fun x32 M33 => [(0, rn w p0), (5, iv p5), (7, iv x32)]) (fun x32 M33 => []) (fun x32 M33 => M33) (zv_sub (L' := [(7, iv 0), (8, iv 0), (0, rn w p0), (2, iv p2), (3, iv p3), (4, iv p4), (5, iv p5), (6, iv x14)]) [1, 0, 2, 4, 5, 6, 7, 8] rfl (vl_X11_world_106 hw p0 p2 p3 p4 p5 x14 hp0 _ (fun _ _ h => h) 0 0 M15)) (fun x32 M33 => ?_)
      refine zv_iconst (z := 0) dX11_world_212 ?_
      refine zv_istore_p (L' := [(8, iv 0), (0, rn w p0), (5, iv p5), (7, iv x32)]) dX11_world_213 (by decide) rfl ?_
      refine zv_iconst (z := 0) dX11_world_215 ?_
      refine zv_istore_p (L' := [(9, iv 0), (8, iv 0), (0, rn w p0), (5, iv p5), (7, iv x32)]) dX11_world_216 (by decide) rfl ?_
      refine zv_join2 259 (fun x43 M44 => [(8, iv x43)]) (fun x43 M44 => []) (fun x43 M44 => M44) (zv_sub (L' := [(8, iv 0), (9, iv 0), (0, rn w p0), (5, iv p5), (7, iv x32)]) [1, 0, 2, 3, 4] rfl (vl_X11_world_218 hw p0 p5 x32 hp0 _ (fun _ _ h => h) 0 0 M33)) (fun x43 M44 => ?_)
      refine zv_iload dX11_world_259 0 rfl ?_
      exact zv_ret (fun h => h) (zv_iret dX11_world_261)
    refine zv_iconst (z := (-1)) dX11_world_92 ?_
    exact zv_ret (fun h => h) (zv_iret dX11_world_93)
  refine zv_iconst (z := (-1)) dX11_world_48 ?_
  exact zv_ret (fun h => h) (zv_iret dX11_world_49)

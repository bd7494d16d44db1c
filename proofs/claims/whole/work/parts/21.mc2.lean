def f_X10_groundOf (k : zK)  (p0 : Nat) (p1 : Int) (p2 : Int) (M0 : zM) : Option (zM × Int) :=
  zb1 (f_X10_settle k p0 M0) (fun M1 => zgd (zr p2) (if p2 = 0 then (zgd (0 ≤ p1 ∧ p1 < 256) (some (M1, M1 (zfr k (zfr k p0 4) 1) p1.toNat))) else (if p2 = 1 then (zgd (0 ≤ p1 ∧ p1 < 256) (some (M1, M1 (zfr k (zfr k p0 4) 2) p1.toNat))) else (if p2 = 2 then (zgd (0 ≤ p1 ∧ p1 < 256) (some (M1, M1 (zfr k (zfr k p0 4) 0) p1.toNat))) else (if p2 = 3 then (zgd (0 ≤ p1 ∧ p1 < 256) (some (M1, M1 (zfr k (zfr k p0 4) 4) p1.toNat))) else (if p2 = 4 then (zgd (0 ≤ p1 ∧ p1 < 256) (some (M1, M1 (zfr k (zfr k p0 4) 5) p1.toNat))) else (if p2 = 5 then (zb1 (f_X2_isSure k (zfr k p0 4) p1 M1) (fun v15 => zbr v15 0 (v15 = 0) (some (M1, 0)) (some (M1, 1)))) else (if p2 = 6 then (zgd (ztag k (M1 p0 10).toNat = 4 ∧ (M1 p0 10).toNat ≠ 0) (zlt (M1 p0 10).toNat (fun q19 => zgd (ztag k (M1 p0 10).toNat = 4 ∧ (M1 p0 10).toNat ≠ 0) (zlt (M1 p0 10).toNat (fun q21 => zgd (0 ≤ p1 ∧ p1 < 256) (zb1 (f_X3_firstAgeAt k q19 (zfr k q21 9) (M1 (zfr k (zfr k p0 4) 1) p1.toNat) M1) (fun v23 => some (M1, v23)))))))) else (if p2 = 7 then (zgd (ztag k (M1 p0 10).toNat = 4 ∧ (M1 p0 10).toNat ≠ 0) (zlt (M1 p0 10).toNat (fun q27 => zgd (ztag k (M1 p0 10).toNat = 4 ∧ (M1 p0 10).toNat ≠ 0) (zlt (M1 p0 10).toNat (fun q29 => zgd (0 ≤ p1 ∧ p1 < 256) (zb1 (f_X3_firstAgeAt k q27 (zfr k q29 8) (M1 (zfr k (zfr k p0 4) 2) p1.toNat) M1) (fun v31 => some (M1, v31)))))))) else (some (M1, (-1))))))))))))
set_option maxRecDepth 20000 in
theorem c_X10_groundOf (l : Launch) {w : zW} (hw : zWk w)  (p0 : Nat) (p1 : Int) (p2 : Int) (M0 : zM) (hp0 : ztag w.1 p0 = 11) : zCn l yX10_groundOf cX10_groundOf 3 (some .int) (5) 1 w [rn w p0, iv p1, iv p2] M0 (f_X10_groundOf w.1 p0 p1 p2 M0) := by
  have hT := hw.1
  refine zCn_of (own := RX10) (by decide) rfl hw (Nat.le_of_ble_eq_true rfl) [(0, rn w p0), (1, iv p1), (2, iv p2)] rfl ?_
  intro κ hl
  subst hl
  unfold f_X10_groundOf
  refine zv_rload_n dX10_groundOf_0 0 rfl ?_
  refine zv_vc (zv_callVv [] (c_X10_settle κ.2.1 hw p0 M0 hp0) zmd_X10_settle zwI_X10_settle zwS_X10_settle zwM_RX10_213 zcd_10 hp0 rfl (by decide) rfl (Nat.le_of_ble_eq_true rfl) dX10_groundOf_1 (fun M1 _ _ => ?_))
  refine zv_iload_n dX10_groundOf_4 2 rfl ?_
  refine zv_gd (fun h2 => ?_)
  refine zv_ite (fun h3 => ?_) (fun h4 => ?_)
  · refine zv_tin (tgt := 52) dX10_groundOf_5 h3 (by decide) (by decide) (by decide) rfl (by decide) ?_
    refine zv_rload_n dX10_groundOf_52 0 rfl ?_
    refine zg_RX10_38 dX10_groundOf_53 hp0 ?_
    refine zg_RX10_216 dX10_groundOf_56 (zta_10_4 hT hp0) ?_
    refine zv_iload_n dX10_groundOf_59 1 rfl ?_
    refine zv_iald dX10_groundOf_60 (zta_2_1 hT (zta_10_4 hT hp0)) (ztl_2_1 hT (zta_10_4 hT hp0)) (by decide) ?_
    exact zv_ret (fun h => h) (zv_iret dX10_groundOf_61)
  refine zv_ite (fun h5 => ?_) (fun h6 => ?_)
  · refine zv_tin (tgt := 62) dX10_groundOf_5 h5 (by decide) (by decide) (by decide) rfl (by decide) ?_
    refine zv_rload_n dX10_groundOf_62 0 rfl ?_
    refine zg_RX10_38 dX10_groundOf_63 hp0 ?_
    refine zg_RX10_219 dX10_groundOf_66 (zta_10_4 hT hp0) ?_
    refine zv_iload_n dX10_groundOf_69 1 rfl ?_
    refine zv_iald dX10_groundOf_70 (zta_2_2 hT (zta_10_4 hT hp0)) (ztl_2_2 hT (zta_10_4 hT hp0)) (by decide) ?_
    exact zv_ret (fun h => h) (zv_iret dX10_groundOf_71)
  refine zv_ite (fun h7 => ?_) (fun h8 => ?_)
  · refine zv_tin (tgt := 72) dX10_groundOf_5 h7 (by decide) (by decide) (by decide) rfl (by decide) ?_
    refine zv_rload_n dX10_groundOf_72 0 rfl ?_
    refine zg_RX10_38 dX10_groundOf_73 hp0 ?_
    refine zg_RX10_220 dX10_groundOf_76 (zta_10_4 hT hp0) ?_
    refine zv_iload_n dX10_groundOf_79 1 rfl ?_
    refine zv_iald dX10_groundOf_80 (zta_2_0 hT (zta_10_4 hT hp0)) (ztl_2_0 hT (zta_10_4 hT hp0)) (by decide) ?_
    exact zv_ret (fun h => h) (zv_iret dX10_groundOf_81)
  refine zv_ite (fun h9 => ?_) (fun h10 => ?_)
  · refine zv_tin (tgt := 82) dX10_groundOf_5 h9 (by decide) (by decide) (by decide) rfl (by decide) ?_
    refine zv_rload_n dX10_groundOf_82 0 rfl ?_
    refine zg_RX10_38 dX10_groundOf_83 hp0 ?_
    refine zg_RX10_223 dX10_groundOf_86 (zta_10_4 hT hp0) ?_
    refine zv_iload_n dX10_groundOf_89 1 rfl ?_
    refine zv_iald dX10_groundOf_90 (zta_2_4 hT (zta_10_4 hT hp0)) (ztl_2_4 hT (zta_10_4 hT hp0)) (by decide) ?_
    exact zv_ret (fun h => h) (zv_iret dX10_groundOf_91)
  refine zv_ite (fun h11 => ?_) (fun h12 => ?_)
  · refine zv_tin (tgt := 92) dX10_groundOf_5 h11 (by decide) (by decide) (by decide) rfl (by decide) ?_
    refine zv_rload_n dX10_groundOf_92 0 rfl ?_
    refine zg_RX10_38 dX10_groundOf_93 hp0 ?_
    refine zg_RX10_226 dX10_groundOf_96 (zta_10_4 hT hp0) ?_
    refine zv_iload_n dX10_groundOf_99 1 rfl ?_
    refine zv_iald dX10_groundOf_100 (zta_2_5 hT (zta_10_4 hT hp0)) (ztl_2_5 hT (zta_10_4 hT hp0)) (by decide) ?_
    exact zv_ret (fun h => h) (zv_iret dX10_groundOf_101)
  refine zv_ite (fun h13 => ?_) (fun h14 => ?_)
  · refine zv_tin (tgt := 102) dX10_groundOf_5 h13 (by decide) (by decide) (by decide) rfl (by decide) ?_
    refine zv_rload_n dX10_groundOf_102 0 rfl ?_
    refine zg_RX10_38 dX10_groundOf_103 hp0 ?_
    refine zv_iload_n dX10_groundOf_106 1 rfl ?_
    refine zv_pc (zv_callVi [iv p1] (c_X2_isSure κ.2.1 hw (zfr w.1 p0 4) p1 M1 (zta_10_4 hT hp0)) zmd_X2_isSure zwI_X2_isSure zwS_X2_isSure zwM_RX10_229 zcd_2 (zta_10_4 hT hp0) rfl (by decide) rfl (Nat.le_of_ble_eq_true rfl) dX10_groundOf_107 (fun mh16 v15 h16 => ?_))
    obtain rfl := zpuE h16
    refine zv_if_eq (tgt := 117) dX10_groundOf_110 (by decide) ?_ ?_
    · refine zv_iconst (z := 0) dX10_groundOf_117 ?_
      exact zv_ret (fun h => h) (zv_iret dX10_groundOf_118)
    refine zv_iconst (z := 1) dX10_groundOf_113 ?_
    refine zv_goto (tgt := 118) dX10_groundOf_114 (by decide) ?_
    exact zv_ret (fun h => h) (zv_iret dX10_groundOf_118)
  refine zv_ite (fun h17 => ?_) (fun h18 => ?_)
  · refine zv_tin (tgt := 119) dX10_groundOf_5 h17 (by decide) (by decide) (by decide) rfl (by decide) ?_
    refine zv_rload_n dX10_groundOf_119 0 rfl ?_
    refine zg_RX10_74 dX10_groundOf_120 hp0 (fun q19 h20 => ?_)
    refine zv_rload_n dX10_groundOf_123 0 rfl ?_
    refine zg_RX10_74 dX10_groundOf_124 hp0 (fun q21 h22 => ?_)
    refine zg_RX10_206 dX10_groundOf_127 h22 ?_
    refine zv_rload_n dX10_groundOf_130 0 rfl ?_
    refine zg_RX10_38 dX10_groundOf_131 hp0 ?_
    refine zg_RX10_216 dX10_groundOf_134 (zta_10_4 hT hp0) ?_
    refine zv_iload_n dX10_groundOf_137 1 rfl ?_
    refine zv_iald dX10_groundOf_138 (zta_2_1 hT (zta_10_4 hT hp0)) (ztl_2_1 hT (zta_10_4 hT hp0)) (by decide) ?_
    refine zv_pc (zv_callVi [rn w (zfr w.1 q21 9), iv (M1 (zfr w.1 (zfr w.1 p0 4) 1) p1.toNat)] (c_X3_firstAgeAt κ.2.1 hw q19 (zfr w.1 q21 9) (M1 (zfr w.1 (zfr w.1 p0 4) 1) p1.toNat) M1 h20 (zta_3_9 hT h22) (ztl_3_9 hT h22)) zmd_X3_firstAgeAt zwI_X3_firstAgeAt zwS_X3_firstAgeAt zwM_RX10_232 zcd_3 h20 rfl (by decide) rfl (Nat.le_of_ble_eq_true rfl) dX10_groundOf_139 (fun mh24 v23 h24 => ?_))
    obtain rfl := zpuE h24
    exact zv_ret (fun h => h) (zv_iret dX10_groundOf_142)
  refine zv_ite (fun h25 => ?_) (fun h26 => ?_)
  · refine zv_tin (tgt := 143) dX10_groundOf_5 h25 (by decide) (by decide) (by decide) rfl (by decide) ?_
    refine zv_rload_n dX10_groundOf_143 0 rfl ?_
    refine zg_RX10_74 dX10_groundOf_144 hp0 (fun q27 h28 => ?_)
    refine zv_rload_n dX10_groundOf_147 0 rfl ?_
    refine zg_RX10_74 dX10_groundOf_148 hp0 (fun q29 h30 => ?_)
    refine zg_RX10_203 dX10_groundOf_151 h30 ?_
    refine zv_rload_n dX10_groundOf_154 0 rfl ?_
    refine zg_RX10_38 dX10_groundOf_155 hp0 ?_
    refine zg_RX10_219 dX10_groundOf_158 (zta_10_4 hT hp0) ?_
    refine zv_iload_n dX10_groundOf_161 1 rfl ?_
    refine zv_iald dX10_groundOf_162 (zta_2_2 hT (zta_10_4 hT hp0)) (ztl_2_2 hT (zta_10_4 hT hp0)) (by decide) ?_
    refine zv_pc (zv_callVi [rn w (zfr w.1 q29 8), iv (M1 (zfr w.1 (zfr w.1 p0 4) 2) p1.toNat)] (c_X3_firstAgeAt κ.2.1 hw q27 (zfr w.1 q29 8) (M1 (zfr w.1 (zfr w.1 p0 4) 2) p1.toNat) M1 h28 (zta_3_8 hT h30) (ztl_3_8 hT h30)) zmd_X3_firstAgeAt zwI_X3_firstAgeAt zwS_X3_firstAgeAt zwM_RX10_232 zcd_3 h28 rfl (by decide) rfl (Nat.le_of_ble_eq_true rfl) dX10_groundOf_163 (fun mh32 v31 h32 => ?_))
    obtain rfl := zpuE h32
    exact zv_ret (fun h => h) (zv_iret dX10_groundOf_166)
  refine zv_tout (tgt := 167) dX10_groundOf_5 h2 (by omega) (by decide) ?_
  refine zv_iconst (z := (-1)) dX10_groundOf_167 ?_
  exact zv_ret (fun h => h) (zv_iret dX10_groundOf_168)
def fb_X7_isPlace_2 (k : zK)  (l0 : Nat) (l1 : Int) (M0 : zM) (y2 : Int) : Option ((Int) ⊕ ((Unit) ⊕ Int)) :=
  zbr y2 (M0 l0 18) (M0 l0 18 ≤ y2) (some (.inr (.inl ()))) (zgd (0 ≤ y2 ∧ y2 < 10) (zbr (M0 (zfr k l0 10) y2.toNat) l1 (¬ M0 (zfr k l0 10) y2.toNat = l1) (zlt (y2 + 1) (fun x1 => some (.inl (x1)))) (some (.inr (.inr 1)))))
def f_X7_isPlace (k : zK)  (p0 : Nat) (p1 : Int) (M0 : zM) : Option Int :=
  zsp0 (zw1 (fb_X7_isPlace_2 k p0 p1 M0) zfu 0) (fun r => some ((r))) (some 0)
theorem vl_X7_isPlace_2 {κ : zC} {w : zW} (hw : zWk w)  (l0 : Nat) (l1 : Int) (g0 : ztag w.1 l0 = 8) (M0 : zM) (E : ((Unit) ⊕ Int) → Prop) (hX : E (.inl ()) → zB cX7_isPlace RX7 3 (some .boolean) κ w (0, 0, 0) 28 [] [] M0) (hR : ∀ r, E (.inr r) → zRt κ w (0, 0, 0) 1 (M0, r)) (y2 : Int) :
    zV cX7_isPlace RX7 3 (some .boolean) κ w (0, 0, 0) 2 [(2, iv y2), (0, rn w l0), (1, iv l1)] [] M0 (zw1 (fb_X7_isPlace_2 w.1 l0 l1 M0) zfu y2) E := by
  have hT := hw.1
  refine zv_loop1 (fun y2 => [(2, iv y2), (0, rn w l0), (1, iv l1)]) (fun y2 => M0) (fun y2 => ?_) y2
  unfold fb_X7_isPlace_2
  refine zv_iload_n dX7_isPlace_2 0 rfl ?_
  refine zv_rload_n dX7_isPlace_3 1 rfl ?_
  refine zg_RX7_67 dX7_isPlace_4 g0 ?_
  refine zv_icmp_ge (tgt := 28) dX7_isPlace_7 (by decide) ?_ ?_
  · exact zv_sub (L' := []) [] rfl (zv_exit (fun h => hX  h))
  refine zv_rload_n dX7_isPlace_10 1 rfl ?_
  refine zg_RX7_42 dX7_isPlace_11 g0 ?_
  refine zv_iload_n dX7_isPlace_14 0 rfl ?_
  refine zv_iald dX7_isPlace_15 (zta_7_10 hT g0) (ztl_7_10 hT g0) (by decide) ?_
  refine zv_iload_n dX7_isPlace_16 2 rfl ?_
  refine zv_icmp_ne (tgt := 22) dX7_isPlace_17 (by decide) ?_ ?_
  · refine zv_iinc dX7_isPlace_22 0 rfl (fun x1 => [(2, iv x1), (0, rn w l0), (1, iv l1)]) (by decide) (fun _ => rfl) (fun x1 => ?_)
    refine zv_goto (tgt := 2) dX7_isPlace_25 (by decide) ?_
    exact zv_sub (L' := [(2, iv x1), (0, rn w l0), (1, iv l1)]) [0, 1, 2] rfl (zv_exit (fun h => h))
  refine zv_iconst (z := 1) dX7_isPlace_20 ?_
  exact zv_ret (fun h => hR _ h) (zv_zrB (by decide) dX7_isPlace_21)
theorem c_X7_isPlace (l : Launch) {w : zW} (hw : zWk w)  (p0 : Nat) (p1 : Int) (M0 : zM) (hp0 : ztag w.1 p0 = 8) : zCn l yX7_isPlace cX7_isPlace 3 (some .boolean) (0) 1 w [rn w p0, iv p1] M0 ((f_X7_isPlace w.1 p0 p1 M0).map fun v => (M0, v)) := by
  have hT := hw.1
  refine zCn_ofP (own := RX7) (by decide) rfl hw (Nat.le_of_ble_eq_true rfl) [(0, rn w p0), (1, iv p1)] rfl ?_
  intro κ hl
  subst hl
  unfold f_X7_isPlace
  refine zv_iconst (z := 0) dX7_isPlace_0 ?_
  refine zv_istore_np (L' := [(2, iv 0), (0, rn w p0), (1, iv p1)]) (by rfl) dX7_isPlace_1 (by decide) rfl ?_
  refine zv_joinS0 (fun r => (r)) 28 ([]) ([]) (M0) (zv_sub (L' := [(2, iv 0), (0, rn w p0), (1, iv p1)]) [0, 1, 2] rfl (vl_X7_isPlace_2 hw p0 p1 hp0 M0 _ (fun h => h) (fun _ h => ((fun h => h)) h) 0)) (?_)
  refine zv_iconst (z := 0) dX7_isPlace_28 ?_
  exact zv_ret (fun h => h) (zv_zrB (by decide) dX7_isPlace_29)
def f_X10_cell (k : zK)  (p0 : Nat) (p1 : Int) (p2 : Int) (M0 : zM) : Option (zM × Int) :=
  zb1 (f_X10_isCell k p1 M0) (fun v1 => zbr v1 0 (¬ v1 = 0) (zgd (zr p2) (if p2 = 8 then (zgd (0 ≤ p1 ∧ p1 < 256) (some (M0, M0 (zfr k (zfr k p0 1) 2) p1.toNat))) else (if p2 = 9 then (zb1 (f_X7_isPlace k (zfr k p0 1) p1 M0) (fun v8 => zbr v8 0 (v8 = 0) (some (M0, 0)) (some (M0, 1)))) else (if p2 = 10 then (zgd (0 ≤ p1 ∧ p1 < 256) (some (M0, M0 (zfr k (zfr k p0 1) 3) p1.toNat))) else (zbd (f_X10_groundOf k p0 p1 p2 M0) (fun M13 v12 => some (M13, v12))))))) (some (M0, (-1))))
theorem c_X10_cell (l : Launch) {w : zW} (hw : zWk w)  (p0 : Nat) (p1 : Int) (p2 : Int) (M0 : zM) (hp0 : ztag w.1 p0 = 11) : zCn l yX10_cell cX10_cell 3 (some .int) (6) 1 w [rn w p0, iv p1, iv p2] M0 (f_X10_cell w.1 p0 p1 p2 M0) := by
  have hT := hw.1
  refine zCn_of (own := RX10) (by decide) rfl hw (Nat.le_of_ble_eq_true rfl) [(0, rn w p0), (1, iv p1), (2, iv p2)] rfl ?_
  intro κ hl
  subst hl
  unfold f_X10_cell
  refine zv_iload_n dX10_cell_0 1 rfl ?_
  refine zv_pc (zv_callSi [iv p1] (c_X10_isCell κ.2.1 hw p1 M0 ) zmd_X10_isCell zwT_X10_isCell zwM_RX10_92 rfl (by decide) rfl (Nat.le_of_ble_eq_true rfl) dX10_cell_1 (fun mh2 v1 h2 => ?_))
  obtain rfl := zpuE h2
  refine zv_if_ne (tgt := 9) dX10_cell_4 (by decide) ?_ ?_
  · refine zv_iload_n dX10_cell_9 2 rfl ?_
    refine zv_gd (fun h3 => ?_)
    refine zv_ite (fun h4 => ?_) (fun h5 => ?_)
    · refine zv_tin (tgt := 36) dX10_cell_10 h4 (by decide) (by decide) (by decide) rfl (by decide) ?_
      refine zv_rload_n dX10_cell_36 0 rfl ?_
      refine zg_RX10_19 dX10_cell_37 hp0 ?_
      refine zg_RX10_141 dX10_cell_40 (zta_10_1 hT hp0) ?_
      refine zv_iload_n dX10_cell_43 1 rfl ?_
      refine zv_iald dX10_cell_44 (zta_7_2 hT (zta_10_1 hT hp0)) (ztl_7_2 hT (zta_10_1 hT hp0)) (by decide) ?_
      exact zv_ret (fun h => h) (zv_iret dX10_cell_45)
    refine zv_ite (fun h6 => ?_) (fun h7 => ?_)
    · refine zv_tin (tgt := 46) dX10_cell_10 h6 (by decide) (by decide) (by decide) rfl (by decide) ?_
      refine zv_rload_n dX10_cell_46 0 rfl ?_
      refine zg_RX10_19 dX10_cell_47 hp0 ?_
      refine zv_iload_n dX10_cell_50 1 rfl ?_
      refine zv_pc (zv_callVi [iv p1] (c_X7_isPlace κ.2.1 hw (zfr w.1 p0 1) p1 M0 (zta_10_1 hT hp0)) zmd_X7_isPlace zwI_X7_isPlace zwS_X7_isPlace zwM_RX10_169 zcd_7 (zta_10_1 hT hp0) rfl (by decide) rfl (Nat.le_of_ble_eq_true rfl) dX10_cell_51 (fun mh9 v8 h9 => ?_))
      obtain rfl := zpuE h9
      refine zv_if_eq (tgt := 61) dX10_cell_54 (by decide) ?_ ?_
      · refine zv_iconst (z := 0) dX10_cell_61 ?_
        exact zv_ret (fun h => h) (zv_iret dX10_cell_62)
      refine zv_iconst (z := 1) dX10_cell_57 ?_
      refine zv_goto (tgt := 62) dX10_cell_58 (by decide) ?_
      exact zv_ret (fun h => h) (zv_iret dX10_cell_62)
    refine zv_ite (fun h10 => ?_) (fun h11 => ?_)
    · refine zv_tin (tgt := 63) dX10_cell_10 h10 (by decide) (by decide) (by decide) rfl (by decide) ?_
      refine zv_rload_n dX10_cell_63 0 rfl ?_
      refine zg_RX10_19 dX10_cell_64 hp0 ?_
      refine zg_RX10_163 dX10_cell_67 (zta_10_1 hT hp0) ?_
      refine zv_iload_n dX10_cell_70 1 rfl ?_
      refine zv_iald dX10_cell_71 (zta_7_3 hT (zta_10_1 hT hp0)) (ztl_7_3 hT (zta_10_1 hT hp0)) (by decide) ?_
      exact zv_ret (fun h => h) (zv_iret dX10_cell_72)
    refine zv_tout (tgt := 73) dX10_cell_10 h3 (by omega) (by decide) ?_
    refine zv_rload_n dX10_cell_73 0 rfl ?_
    refine zv_iload_n dX10_cell_74 1 rfl ?_
    refine zv_iload_n dX10_cell_75 2 rfl ?_
    refine (zv_callVi [iv p1, iv p2] (c_X10_groundOf κ.2.1 hw p0 p1 p2 M0 hp0) zmd_X10_groundOf zwI_X10_groundOf zwS_X10_groundOf zwM_RX10_209 zcd_10 hp0 rfl (by decide) rfl (Nat.le_of_ble_eq_true rfl) dX10_cell_76 (fun M13 v12 _ => ?_))
    exact zv_ret (fun h => h) (zv_iret dX10_cell_79)
  refine zv_iconst (z := (-1)) dX10_cell_7 ?_
  exact zv_ret (fun h => h) (zv_iret dX10_cell_8)
def fb_X7_countBuckets_4 (k : zK)  (l0 : Nat) (M0 : zM) (y1 : Int) (y2 : Int) : Option ((Int × Int) ⊕ (Int)) :=
  zbr y2 256 (256 ≤ y2) (some (.inr y1)) (zgd (0 ≤ y2 ∧ y2 < 256) (zlt (y1 + (M0 (zfr k l0 2) y2.toNat)) (fun x1 => zlt (y2 + 1) (fun x2 => some (.inl (x1, x2))))))
def f_X7_countBuckets (k : zK)  (p0 : Nat) (M0 : zM) : Option Int :=
  zb1 (zw2 (fb_X7_countBuckets_4 k p0 M0) zfu 0 0) (fun x3 => some x3)
theorem vl_X7_countBuckets_4 {κ : zC} {w : zW} (hw : zWk w)  (l0 : Nat) (g0 : ztag w.1 l0 = 8) (M0 : zM) (E : (Int) → Prop) (hX : ∀ (u1 : Int), E u1 → zB cX7_countBuckets RX7 3 (some .int) κ w (0, 0, 0) 26 [(1, iv u1)] [] M0)  (y1 : Int) (y2 : Int) :
    zV cX7_countBuckets RX7 3 (some .int) κ w (0, 0, 0) 4 [(1, iv y1), (2, iv y2), (0, rn w l0)] [] M0 (zw2 (fb_X7_countBuckets_4 w.1 l0 M0) zfu y1 y2) E := by
  have hT := hw.1
  refine zv_loop2 (fun y1 y2 => [(1, iv y1), (2, iv y2), (0, rn w l0)]) (fun y1 y2 => M0) (fun y1 y2 => ?_) y1 y2
  unfold fb_X7_countBuckets_4
  refine zv_iload_n dX7_countBuckets_4 1 rfl ?_
  refine zv_sipush (z := 256) dX7_countBuckets_5 (by decide) ?_
  refine zv_icmp_ge (tgt := 26) dX7_countBuckets_8 (by decide) ?_ ?_
  · exact zv_sub (L' := [(1, iv y1)]) [0] rfl (zv_exit (fun h => hX _ h))
  refine zv_iload_n dX7_countBuckets_11 0 rfl ?_
  refine zv_rload_n dX7_countBuckets_12 2 rfl ?_
  refine zg_RX7_18 dX7_countBuckets_13 g0 ?_
  refine zv_iload_n dX7_countBuckets_16 1 rfl ?_
  refine zv_iald dX7_countBuckets_17 (zta_7_2 hT g0) (ztl_7_2 hT g0) (by decide) ?_
  refine zv_iadd dX7_countBuckets_18 ?_
  refine zv_istore_n (i := 1) (by rfl) dX7_countBuckets_19 (fun x1 => [(1, iv x1), (2, iv y2), (0, rn w l0)]) (by decide) (fun _ => rfl) (fun x1 => ?_)
  refine zv_iinc dX7_countBuckets_20 1 rfl (fun x2 => [(2, iv x2), (1, iv x1), (0, rn w l0)]) (by decide) (fun _ => rfl) (fun x2 => ?_)
  refine zv_goto (tgt := 4) dX7_countBuckets_23 (by decide) ?_
  exact zv_sub (L' := [(1, iv x1), (2, iv x2), (0, rn w l0)]) [1, 0, 2] rfl (zv_exit (fun h => h))
theorem c_X7_countBuckets (l : Launch) {w : zW} (hw : zWk w)  (p0 : Nat) (M0 : zM) (hp0 : ztag w.1 p0 = 8) : zCn l yX7_countBuckets cX7_countBuckets 3 (some .int) (0) 1 w [rn w p0] M0 ((f_X7_countBuckets w.1 p0 M0).map fun v => (M0, v)) := by
  have hT := hw.1
  refine zCn_ofP (own := RX7) (by decide) rfl hw (Nat.le_of_ble_eq_true rfl) [(0, rn w p0)] rfl ?_
  intro κ hl
  subst hl
  unfold f_X7_countBuckets
  refine zv_iconst (z := 0) dX7_countBuckets_0 ?_
  refine zv_istore_np (L' := [(1, iv 0), (0, rn w p0)]) (by rfl) dX7_countBuckets_1 (by decide) rfl ?_
  refine zv_iconst (z := 0) dX7_countBuckets_2 ?_
  refine zv_istore_np (L' := [(2, iv 0), (1, iv 0), (0, rn w p0)]) (by rfl) dX7_countBuckets_3 (by decide) rfl ?_
  refine zv_join1 26 (fun x3 => [(1, iv x3)]) (fun x3 => []) (fun x3 => M0) (zv_sub (L' := [(1, iv 0), (2, iv 0), (0, rn w p0)]) [1, 0, 2] rfl (vl_X7_countBuckets_4 hw p0 hp0 M0 _ (fun _ h => h) 0 0)) (fun x3 => ?_)
  refine zv_iload_n dX7_countBuckets_26 0 rfl ?_
  exact zv_ret (fun h => h) (zv_iret dX7_countBuckets_27)
def f_X10_count (k : zK)  (p0 : Nat) (p1 : Int) (M0 : zM) : Option Int :=
  zgd (zr p1) (if p1 = 0 then (zgd (ztag k (M0 p0 10).toNat = 4 ∧ (M0 p0 10).toNat ≠ 0) (zlt (M0 p0 10).toNat (fun q4 => some (M0 q4 0)))) else (if p1 = 1 then (some (M0 (zfr k p0 1) 16)) else (if p1 = 2 then (some (M0 (zfr k p0 1) 17)) else (if p1 = 3 then (zb1 (f_X7_countBuckets k (zfr k p0 1) M0) (fun v12 => some v12)) else (if p1 = 4 then (some (M0 (zfr k p0 1) 18)) else (if p1 = 5 then (some (M0 (zfr k p0 1) 15)) else (if p1 = 6 then (some (M0 (zfr k p0 0) 1)) else (if p1 = 7 then (some (M0 p0 13)) else (if p1 = 8 then (zgd (0 ≤ p1 - 8 ∧ p1 - 8 < 3) (some (M0 (zfr k p0 9) (p1 - 8).toNat))) else (if p1 = 9 then (zgd (0 ≤ p1 - 8 ∧ p1 - 8 < 3) (some (M0 (zfr k p0 9) (p1 - 8).toNat))) else (if p1 = 10 then (zgd (0 ≤ p1 - 8 ∧ p1 - 8 < 3) (some (M0 (zfr k p0 9) (p1 - 8).toNat))) else (if p1 = 11 then (zgd (ztag k (M0 p0 10).toNat = 4 ∧ (M0 p0 10).toNat ≠ 0) (zlt (M0 p0 10).toNat (fun q30 => some (M0 q30 13)))) else (if p1 = 12 then (zgd (ztag k (M0 p0 10).toNat = 4 ∧ (M0 p0 10).toNat ≠ 0) (zlt (M0 p0 10).toNat (fun q34 => zgd (0 ≤ p1 - 12 ∧ p1 - 12 < 3) (some (M0 (zfr k q34 14) (p1 - 12).toNat))))) else (if p1 = 13 then (zgd (ztag k (M0 p0 10).toNat = 4 ∧ (M0 p0 10).toNat ≠ 0) (zlt (M0 p0 10).toNat (fun q38 => zgd (0 ≤ p1 - 12 ∧ p1 - 12 < 3) (some (M0 (zfr k q38 14) (p1 - 12).toNat))))) else (if p1 = 14 then (zgd (ztag k (M0 p0 10).toNat = 4 ∧ (M0 p0 10).toNat ≠ 0) (zlt (M0 p0 10).toNat (fun q42 => zgd (0 ≤ p1 - 12 ∧ p1 - 12 < 3) (some (M0 (zfr k q42 14) (p1 - 12).toNat))))) else (if p1 = 15 then (some (M0 (zfr k p0 1) 19)) else (some (-1))))))))))))))))))
set_option maxRecDepth 20000 in
theorem c_X10_count (l : Launch) {w : zW} (hw : zWk w)  (p0 : Nat) (p1 : Int) (M0 : zM) (hp0 : ztag w.1 p0 = 11) : zCn l yX10_count cX10_count 2 (some .int) (1) 1 w [rn w p0, iv p1] M0 ((f_X10_count w.1 p0 p1 M0).map fun v => (M0, v)) := by
  have hT := hw.1
  refine zCn_ofP (own := RX10) (by decide) rfl hw (Nat.le_of_ble_eq_true rfl) [(0, rn w p0), (1, iv p1)] rfl ?_
  intro κ hl
  subst hl
  unfold f_X10_count
  refine zv_iload_n dX10_count_0 1 rfl ?_
  refine zv_gd (fun h1 => ?_)
  refine zv_ite (fun h2 => ?_) (fun h3 => ?_)
  · refine zv_tin (tgt := 80) dX10_count_1 h2 (by decide) (by decide) (by decide) rfl (by decide) ?_
    refine zv_rload_n dX10_count_80 0 rfl ?_
    refine zg_RX10_74 dX10_count_81 hp0 (fun q4 h5 => ?_)
    refine zg_RX10_123 dX10_count_84 h5 ?_
    exact zv_ret (fun h => h) (zv_iret dX10_count_87)
  refine zv_ite (fun h6 => ?_) (fun h7 => ?_)
  · refine zv_tin (tgt := 88) dX10_count_1 h6 (by decide) (by decide) (by decide) rfl (by decide) ?_
    refine zv_rload_n dX10_count_88 0 rfl ?_
    refine zg_RX10_19 dX10_count_89 hp0 ?_
    refine zg_RX10_129 dX10_count_92 (zta_10_1 hT hp0) ?_
    exact zv_ret (fun h => h) (zv_iret dX10_count_95)
  refine zv_ite (fun h8 => ?_) (fun h9 => ?_)
  · refine zv_tin (tgt := 96) dX10_count_1 h8 (by decide) (by decide) (by decide) rfl (by decide) ?_
    refine zv_rload_n dX10_count_96 0 rfl ?_
    refine zg_RX10_19 dX10_count_97 hp0 ?_
    refine zg_RX10_148 dX10_count_100 (zta_10_1 hT hp0) ?_
    exact zv_ret (fun h => h) (zv_iret dX10_count_103)
  refine zv_ite (fun h10 => ?_) (fun h11 => ?_)
  · refine zv_tin (tgt := 104) dX10_count_1 h10 (by decide) (by decide) (by decide) rfl (by decide) ?_
    refine zv_rload_n dX10_count_104 0 rfl ?_
    refine zg_RX10_19 dX10_count_105 hp0 ?_
    refine zv_pc (zv_callVi [] (c_X7_countBuckets κ.2.1 hw (zfr w.1 p0 1) M0 (zta_10_1 hT hp0)) zmd_X7_countBuckets zwI_X7_countBuckets zwS_X7_countBuckets zwM_RX10_424 zcd_7 (zta_10_1 hT hp0) rfl (by decide) rfl (Nat.le_of_ble_eq_true rfl) dX10_count_108 (fun mh13 v12 h13 => ?_))
    obtain rfl := zpuE h13
    exact zv_ret (fun h => h) (zv_iret dX10_count_111)
  refine zv_ite (fun h14 => ?_) (fun h15 => ?_)
  · refine zv_tin (tgt := 112) dX10_count_1 h14 (by decide) (by decide) (by decide) rfl (by decide) ?_
    refine zv_rload_n dX10_count_112 0 rfl ?_
    refine zg_RX10_19 dX10_count_113 hp0 ?_
    refine zg_RX10_172 dX10_count_116 (zta_10_1 hT hp0) ?_
    exact zv_ret (fun h => h) (zv_iret dX10_count_119)
  refine zv_ite (fun h16 => ?_) (fun h17 => ?_)
  · refine zv_tin (tgt := 120) dX10_count_1 h16 (by decide) (by decide) (by decide) rfl (by decide) ?_
    refine zv_rload_n dX10_count_120 0 rfl ?_
    refine zg_RX10_19 dX10_count_121 hp0 ?_
    refine zg_RX10_166 dX10_count_124 (zta_10_1 hT hp0) ?_
    exact zv_ret (fun h => h) (zv_iret dX10_count_127)
  refine zv_ite (fun h18 => ?_) (fun h19 => ?_)
  · refine zv_tin (tgt := 128) dX10_count_1 h18 (by decide) (by decide) (by decide) rfl (by decide) ?_
    refine zv_rload_n dX10_count_128 0 rfl ?_
    refine zg_RX10_10 dX10_count_129 hp0 ?_
    refine zg_RX10_112 dX10_count_132 (zta_10_0 hT hp0) ?_
    exact zv_ret (fun h => h) (zv_iret dX10_count_135)
  refine zv_ite (fun h20 => ?_) (fun h21 => ?_)
  · refine zv_tin (tgt := 136) dX10_count_1 h20 (by decide) (by decide) (by decide) rfl (by decide) ?_
    refine zv_rload_n dX10_count_136 0 rfl ?_
    refine zg_RX10_85 dX10_count_137 hp0 ?_
    exact zv_ret (fun h => h) (zv_iret dX10_count_140)
  refine zv_ite (fun h22 => ?_) (fun h23 => ?_)
  · refine zv_tin (tgt := 141) dX10_count_1 h22 (by decide) (by decide) (by decide) rfl (by decide) ?_
    refine zv_rload_n dX10_count_141 0 rfl ?_
    refine zg_RX10_67 dX10_count_142 hp0 ?_
    refine zv_iload_n dX10_count_145 1 rfl ?_
    refine zv_bipush (z := 8) dX10_count_146 (by decide) ?_
    refine zv_isub dX10_count_148 ?_
    refine zv_iald dX10_count_149 (zta_10_9 hT hp0) (ztl_10_9 hT hp0) (by decide) ?_
    exact zv_ret (fun h => h) (zv_iret dX10_count_150)
  refine zv_ite (fun h24 => ?_) (fun h25 => ?_)
  · refine zv_tin (tgt := 141) dX10_count_1 h24 (by decide) (by decide) (by decide) rfl (by decide) ?_
    refine zv_rload_n dX10_count_141 0 rfl ?_
    refine zg_RX10_67 dX10_count_142 hp0 ?_
    refine zv_iload_n dX10_count_145 1 rfl ?_
    refine zv_bipush (z := 8) dX10_count_146 (by decide) ?_
    refine zv_isub dX10_count_148 ?_
    refine zv_iald dX10_count_149 (zta_10_9 hT hp0) (ztl_10_9 hT hp0) (by decide) ?_
    exact zv_ret (fun h => h) (zv_iret dX10_count_150)
  refine zv_ite (fun h26 => ?_) (fun h27 => ?_)
  · refine zv_tin (tgt := 141) dX10_count_1 h26 (by decide) (by decide) (by decide) rfl (by decide) ?_
    refine zv_rload_n dX10_count_141 0 rfl ?_
    refine zg_RX10_67 dX10_count_142 hp0 ?_
    refine zv_iload_n dX10_count_145 1 rfl ?_
    refine zv_bipush (z := 8) dX10_count_146 (by decide) ?_
    refine zv_isub dX10_count_148 ?_
    refine zv_iald dX10_count_149 (zta_10_9 hT hp0) (ztl_10_9 hT hp0) (by decide) ?_
    exact zv_ret (fun h => h) (zv_iret dX10_count_150)
  refine zv_ite (fun h28 => ?_) (fun h29 => ?_)
  · refine zv_tin (tgt := 151) dX10_count_1 h28 (by decide) (by decide) (by decide) rfl (by decide) ?_
    refine zv_rload_n dX10_count_151 0 rfl ?_
    refine zg_RX10_74 dX10_count_152 hp0 (fun q30 h31 => ?_)
    refine zg_RX10_347 dX10_count_155 h31 ?_
    exact zv_ret (fun h => h) (zv_iret dX10_count_158)
  refine zv_ite (fun h32 => ?_) (fun h33 => ?_)
  · refine zv_tin (tgt := 159) dX10_count_1 h32 (by decide) (by decide) (by decide) rfl (by decide) ?_
    refine zv_rload_n dX10_count_159 0 rfl ?_
    refine zg_RX10_74 dX10_count_160 hp0 (fun q34 h35 => ?_)
    refine zg_RX10_350 dX10_count_163 h35 ?_
    refine zv_iload_n dX10_count_166 1 rfl ?_
    refine zv_bipush (z := 12) dX10_count_167 (by decide) ?_
    refine zv_isub dX10_count_169 ?_
    refine zv_iald dX10_count_170 (zta_3_14 hT h35) (ztl_3_14 hT h35) (by decide) ?_
    exact zv_ret (fun h => h) (zv_iret dX10_count_171)
  refine zv_ite (fun h36 => ?_) (fun h37 => ?_)
  · refine zv_tin (tgt := 159) dX10_count_1 h36 (by decide) (by decide) (by decide) rfl (by decide) ?_
    refine zv_rload_n dX10_count_159 0 rfl ?_
    refine zg_RX10_74 dX10_count_160 hp0 (fun q38 h39 => ?_)
    refine zg_RX10_350 dX10_count_163 h39 ?_
    refine zv_iload_n dX10_count_166 1 rfl ?_
    refine zv_bipush (z := 12) dX10_count_167 (by decide) ?_
    refine zv_isub dX10_count_169 ?_
    refine zv_iald dX10_count_170 (zta_3_14 hT h39) (ztl_3_14 hT h39) (by decide) ?_
    exact zv_ret (fun h => h) (zv_iret dX10_count_171)
  refine zv_ite (fun h40 => ?_) (fun h41 => ?_)
  · refine zv_tin (tgt := 159) dX10_count_1 h40 (by decide) (by decide) (by decide) rfl (by decide) ?_
    refine zv_rload_n dX10_count_159 0 rfl ?_
    refine zg_RX10_74 dX10_count_160 hp0 (fun q42 h43 => ?_)
    refine zg_RX10_350 dX10_count_163 h43 ?_
    refine zv_iload_n dX10_count_166 1 rfl ?_
    refine zv_bipush (z := 12) dX10_count_167 (by decide) ?_
    refine zv_isub dX10_count_169 ?_
    refine zv_iald dX10_count_170 (zta_3_14 hT h43) (ztl_3_14 hT h43) (by decide) ?_
    exact zv_ret (fun h => h) (zv_iret dX10_count_171)
  refine zv_ite (fun h44 => ?_) (fun h45 => ?_)
  · refine zv_tin (tgt := 172) dX10_count_1 h44 (by decide) (by decide) (by decide) rfl (by decide) ?_
    refine zv_rload_n dX10_count_172 0 rfl ?_
    refine zg_RX10_19 dX10_count_173 hp0 ?_
    refine zg_RX10_178 dX10_count_176 (zta_10_1 hT hp0) ?_
    exact zv_ret (fun h => h) (zv_iret dX10_count_179)
  refine zv_tout (tgt := 180) dX10_count_1 h1 (by omega) (by decide) ?_
  refine zv_iconst (z := (-1)) dX10_count_180 ?_
  exact zv_ret (fun h => h) (zv_iret dX10_count_181)
def fb_X10_reckonLeft_59 (k : zK)  (l0 : Nat) (l1 : Int) (M0 : zM) (y4 : Int) (y6 : Int) (y8 : Int) : Option ((Int × Int × Int) ⊕ (Int × Int)) :=
  zgd (0 ≤ l1 ∧ l1 < 256) (zbr y8 (M0 (zfr k (zfr k l0 1) 2) l1.toNat) (M0 (zfr k (zfr k l0 1) 2) l1.toNat ≤ y8) (some (.inr (y4, y6))) (zgd (ztag k (M0 l0 10).toNat = 4 ∧ (M0 l0 10).toNat ≠ 0) (zlt (M0 l0 10).toNat (fun q5 => zgd (zr (10 - (M0 q5 13))) (zlt (y4 * (10 - (M0 q5 13))) (fun x7 => zlt (y6 * 10) (fun x8 => zlt (y8 + 1) (fun x9 => some (.inl (x7, x8, x9))))))))))
def f_X10_reckonLeft (k : zK)  (p0 : Nat) (p1 : Int) (p2 : Nat) (M0 : zM) : Option zM :=
  zgd (0 ≤ p1 ∧ p1 < 256) (zbr (M0 (zfr k p2 0) p1.toNat) 0 (¬ M0 (zfr k p2 0) p1.toNat = 0) (zb1 (f_X8_kindOf k p2 p1 M0) (fun v1 => zgd (0 ≤ v1 ∧ v1 < 16) (zgd (zr ((M0 (zfr k (zfr k p0 1) 5) v1.toNat) + 1)) (zlt ((M0 (zfr k (zfr k p0 1) 5) v1.toNat) + 1) (fun x3 => zgd (0 ≤ v1 ∧ v1 < 16) (zgd (zr ((M0 (zfr k (zfr k p0 1) 4) v1.toNat) + 2)) (zlt (((M0 (zfr k (zfr k p0 1) 4) v1.toNat) + 2) - x3) (fun x4 => zb2 (zw3 (fb_X10_reckonLeft_59 k p0 p1 M0) zfu x3 x4 0) (fun x10 x11 => zb1 (f_X5_put k (zfr k p0 8) x10 (x10 + x11) M0) (fun M12 => some M12)))))))))) (zb1 (f_X5_put k (zfr k p0 8) 0 1 M0) (fun M13 => some M13)))
theorem vl_X10_reckonLeft_59 {κ : zC} {w : zW} (hw : zWk w)  (l0 : Nat) (l1 : Int) (g0 : ztag w.1 l0 = 11) (M0 : zM) (E : (Int × Int) → Prop) (hX : ∀ (u4 : Int) (u6 : Int), E (u4, u6) → zB cX10_reckonLeft RX10 9 none κ w (0, 0, 2) 103 [(0, rn w l0), (4, jv u4), (6, jv u6)] [] M0)  (y4 : Int) (y6 : Int) (y8 : Int) :
    zV cX10_reckonLeft RX10 9 none κ w (0, 0, 2) 59 [(4, jv y4), (6, jv y6), (8, iv y8), (0, rn w l0), (1, iv l1)] [] M0 (zw3 (fb_X10_reckonLeft_59 w.1 l0 l1 M0) zfu y4 y6 y8) E := by
  have hT := hw.1
  refine zv_loop3 (fun y4 y6 y8 => [(4, jv y4), (6, jv y6), (8, iv y8), (0, rn w l0), (1, iv l1)]) (fun y4 y6 y8 => M0) (fun y4 y6 y8 => ?_) y4 y6 y8
  unfold fb_X10_reckonLeft_59
  refine zv_iload dX10_reckonLeft_59 2 rfl ?_
  refine zv_rload_n dX10_reckonLeft_61 3 rfl ?_
  refine zg_RX10_19 dX10_reckonLeft_62 g0 ?_
  refine zg_RX10_141 dX10_reckonLeft_65 (zta_10_1 hT g0) ?_
  refine zv_iload_n dX10_reckonLeft_68 4 rfl ?_
  refine zv_iald dX10_reckonLeft_69 (zta_7_2 hT (zta_10_1 hT g0)) (ztl_7_2 hT (zta_10_1 hT g0)) (by decide) ?_
  refine zv_icmp_ge (tgt := 103) dX10_reckonLeft_70 (by decide) ?_ ?_
  · exact zv_sub (L' := [(0, rn w l0), (4, jv y4), (6, jv y6)]) [3, 0, 1] rfl (zv_exit (fun h => hX _ _ h))
  refine zv_lload dX10_reckonLeft_73 0 rfl ?_
  refine zv_bipush (z := 10) dX10_reckonLeft_75 (by decide) ?_
  refine zv_rload_n dX10_reckonLeft_77 3 rfl ?_
  refine zg_RX10_74 dX10_reckonLeft_78 g0 (fun q5 h6 => ?_)
  refine zg_RX10_347 dX10_reckonLeft_81 h6 ?_
  refine zv_isub dX10_reckonLeft_84 ?_
  refine zv_i2l dX10_reckonLeft_85 ?_
  refine zv_lmul dX10_reckonLeft_86 ?_
  refine zv_lstore dX10_reckonLeft_87 (fun x7 => [(4, jv x7), (6, jv y6), (8, iv y8), (0, rn w l0), (1, iv l1)]) (by decide) (fun _ => rfl) (fun x7 => ?_)
  refine zv_lload dX10_reckonLeft_89 1 rfl ?_
  refine zv_ldc2 (z := 10) dX10_reckonLeft_91 zwK_RX10_449 (by decide) ?_
  refine zv_lmul dX10_reckonLeft_94 ?_
  refine zv_lstore dX10_reckonLeft_95 (fun x8 => [(6, jv x8), (4, jv x7), (8, iv y8), (0, rn w l0), (1, iv l1)]) (by decide) (fun _ => rfl) (fun x8 => ?_)
  refine zv_iinc dX10_reckonLeft_97 2 rfl (fun x9 => [(8, iv x9), (6, jv x8), (4, jv x7), (0, rn w l0), (1, iv l1)]) (by decide) (fun _ => rfl) (fun x9 => ?_)
  refine zv_goto (tgt := 59) dX10_reckonLeft_100 (by decide) ?_
  exact zv_sub (L' := [(4, jv x7), (6, jv x8), (8, iv x9), (0, rn w l0), (1, iv l1)]) [2, 1, 0, 3, 4] rfl (zv_exit (fun h => h))
theorem c_X10_reckonLeft (l : Launch) {w : zW} (hw : zWk w)  (p0 : Nat) (p1 : Int) (p2 : Nat) (M0 : zM) (hp0 : ztag w.1 p0 = 11) (hp2 : ztag w.1 p2 = 9) : zCn l yX10_reckonLeft cX10_reckonLeft 9 none (2) 0 w [rn w p0, iv p1, rn w p2] M0 ((f_X10_reckonLeft w.1 p0 p1 p2 M0).map fun m => (m, (0 : Int))) := by
  have hT := hw.1
  refine zCn_ofV (own := RX10) (by decide) rfl hw (Nat.le_of_ble_eq_true rfl) [(0, rn w p0), (1, iv p1), (2, rn w p2)] rfl ?_
  intro κ hl
  subst hl
  unfold f_X10_reckonLeft
  refine zv_rload_n dX10_reckonLeft_0 2 rfl ?_
  refine zg_RX10_240 dX10_reckonLeft_1 hp2 ?_
  refine zv_iload_n dX10_reckonLeft_4 1 rfl ?_
  refine zv_zald dX10_reckonLeft_5 (zta_8_0 hT hp2) (ztl_8_0 hT hp2) (by decide) ?_
  refine zv_if_ne (tgt := 19) dX10_reckonLeft_6 (by decide) ?_ ?_
  · refine zv_rload_n dX10_reckonLeft_19 2 rfl ?_
    refine zv_iload_n dX10_reckonLeft_20 1 rfl ?_
    refine zv_pc (zv_callVi [iv p1] (c_X8_kindOf κ.2.1 hw p2 p1 M0 hp2) zmd_X8_kindOf zwI_X8_kindOf zwS_X8_kindOf zwM_RX10_267 zcd_8 hp2 rfl (by decide) rfl (Nat.le_of_ble_eq_true rfl) dX10_reckonLeft_21 (fun mh2 v1 h2 => ?_))
    obtain rfl := zpuE h2
    refine zv_istore_np (L' := [(3, iv v1), (0, rn w p0), (1, iv p1), (2, rn w p2)]) (by rfl) dX10_reckonLeft_24 (by decide) rfl ?_
    refine zv_rload_n dX10_reckonLeft_25 1 rfl ?_
    refine zg_RX10_19 dX10_reckonLeft_26 hp0 ?_
    refine zg_RX10_135 dX10_reckonLeft_29 (zta_10_1 hT hp0) ?_
    refine zv_iload_n dX10_reckonLeft_32 0 rfl ?_
    refine zv_iald dX10_reckonLeft_33 (zta_7_5 hT (zta_10_1 hT hp0)) (ztl_7_5 hT (zta_10_1 hT hp0)) (by decide) ?_
    refine zv_iconst (z := 1) dX10_reckonLeft_34 ?_
    refine zv_iadd dX10_reckonLeft_35 ?_
    refine zv_i2l dX10_reckonLeft_36 ?_
    refine zv_lstore dX10_reckonLeft_37 (fun x3 => [(4, jv x3), (3, iv v1), (0, rn w p0), (1, iv p1), (2, rn w p2)]) (by decide) (fun _ => rfl) (fun x3 => ?_)
    refine zv_rload_n dX10_reckonLeft_39 2 rfl ?_
    refine zg_RX10_19 dX10_reckonLeft_40 hp0 ?_
    refine zg_RX10_132 dX10_reckonLeft_43 (zta_10_1 hT hp0) ?_
    refine zv_iload_n dX10_reckonLeft_46 1 rfl ?_
    refine zv_iald dX10_reckonLeft_47 (zta_7_4 hT (zta_10_1 hT hp0)) (ztl_7_4 hT (zta_10_1 hT hp0)) (by decide) ?_
    refine zv_iconst (z := 2) dX10_reckonLeft_48 ?_
    refine zv_iadd dX10_reckonLeft_49 ?_
    refine zv_i2l dX10_reckonLeft_50 ?_
    refine zv_lload dX10_reckonLeft_51 0 rfl ?_
    refine zv_lsub dX10_reckonLeft_53 ?_
    refine zv_lstore dX10_reckonLeft_54 (fun x4 => [(6, jv x4), (4, jv x3), (3, iv v1), (0, rn w p0), (1, iv p1), (2, rn w p2)]) (by decide) (fun _ => rfl) (fun x4 => ?_)
    refine zv_iconst (z := 0) dX10_reckonLeft_56 ?_
    refine zv_istore_p (L' := [(8, iv 0), (6, jv x4), (4, jv x3), (3, iv v1), (0, rn w p0), (1, iv p1), (2, rn w p2)]) dX10_reckonLeft_57 (by decide) rfl ?_
    refine zv_join2 103 (fun x10 x11 => [(0, rn w p0), (4, jv x10), (6, jv x11)]) (fun x10 x11 => []) (fun x10 x11 => M0) (zv_sub (L' := [(4, jv x3), (6, jv x4), (8, iv 0), (0, rn w p0), (1, iv p1)]) [2, 1, 0, 4, 5] rfl (vl_X10_reckonLeft_59 hw p0 p1 hp0 M0 _ (fun _ _ h => h) x3 x4 0)) (fun x10 x11 => ?_)
    refine zv_rload_n dX10_reckonLeft_103 0 rfl ?_
    refine zg_RX10_63 dX10_reckonLeft_104 hp0 ?_
    refine zv_lload dX10_reckonLeft_107 1 rfl ?_
    refine zv_lload dX10_reckonLeft_109 1 rfl ?_
    refine zv_lload dX10_reckonLeft_111 2 rfl ?_
    refine zv_ladd dX10_reckonLeft_113 ?_
    refine zv_vc (zv_callVv [jv x10, jv (x10 + x11)] (c_X5_put κ.2.1 hw (zfr w.1 p0 8) x10 (x10 + x11) M0 (zta_10_8 hT hp0)) zmd_X5_put zwI_X5_put zwS_X5_put zwM_RX10_289 zcd_5 (zta_10_8 hT hp0) rfl (by decide) rfl (Nat.le_of_ble_eq_true rfl) dX10_reckonLeft_114 (fun M12 _ _ => ?_))
    exact zv_ret (fun h => h) (zv_vret (v := 0) dX10_reckonLeft_117)
  refine zv_rload_n dX10_reckonLeft_9 0 rfl ?_
  refine zg_RX10_63 dX10_reckonLeft_10 hp0 ?_
  refine zv_lconst (z := 0) dX10_reckonLeft_13 (by decide) ?_
  refine zv_lconst (z := 1) dX10_reckonLeft_14 (by decide) ?_
  refine zv_vc (zv_callVv [jv 0, jv 1] (c_X5_put κ.2.1 hw (zfr w.1 p0 8) 0 1 M0 (zta_10_8 hT hp0)) zmd_X5_put zwI_X5_put zwS_X5_put zwM_RX10_289 zcd_5 (zta_10_8 hT hp0) rfl (by decide) rfl (Nat.le_of_ble_eq_true rfl) dX10_reckonLeft_15 (fun M13 _ _ => ?_))
  exact zv_ret (fun h => h) (zv_vret (v := 0) dX10_reckonLeft_18)
def f_J13_compare_74951 (k : zK)  (p0 : Int) (p2 : Int) (M0 : zM) : Option Int :=
  zbl p0 p2 (p2 ≤ p0) (zbl p0 p2 (¬ p0 = p2) (some 1) (some 0)) (some (-1))
theorem c_J13_compare_74951 (l : Launch) {w : zW} (hw : zWk w)  (p0 : Int) (p2 : Int) (M0 : zM)  : zCn l yJ13_compare_74951 cJ13_compare_74951 4 (some .int) (0) 1 w [jv p0, jv p2] M0 ((f_J13_compare_74951 w.1 p0 p2 M0).map fun v => (M0, v)) := by
  have hT := hw.1
  refine zCn_ofP (own := RJ13) (by decide) rfl hw (Nat.le_of_ble_eq_true rfl) [(0, jv p0), (2, jv p2)] rfl ?_
  intro κ hl
  subst hl
  unfold f_J13_compare_74951
  refine zv_lload_n dJ13_compare_74951_0 0 rfl ?_
  refine zv_lload_n dJ13_compare_74951_1 1 rfl ?_
  refine zv_lcmp_ge (tgt := 10) dJ13_compare_74951_2 dJ13_compare_74951_3 (by decide) ?_ ?_
  · refine zv_lload_n dJ13_compare_74951_10 0 rfl ?_
    refine zv_lload_n dJ13_compare_74951_11 1 rfl ?_
    refine zv_lcmp_ne (tgt := 20) dJ13_compare_74951_12 dJ13_compare_74951_13 (by decide) ?_ ?_
    · refine zv_iconst (z := 1) dJ13_compare_74951_20 ?_
      exact zv_ret (fun h => h) (zv_iret dJ13_compare_74951_21)
    refine zv_iconst (z := 0) dJ13_compare_74951_16 ?_
    refine zv_goto (tgt := 21) dJ13_compare_74951_17 (by decide) ?_
    exact zv_ret (fun h => h) (zv_iret dJ13_compare_74951_21)
  refine zv_iconst (z := (-1)) dJ13_compare_74951_6 ?_
  refine zv_goto (tgt := 21) dJ13_compare_74951_7 (by decide) ?_
  exact zv_ret (fun h => h) (zv_iret dJ13_compare_74951_21)
def fb_X5_compare_17 (k : zK)  (M0 : zM) (y8 : Int) (y10 : Int) (y12 : Int) (y14 : Int) (y16 : Int) : Option ((Int × Int × Int × Int × Int) ⊕ ((Int × Int) ⊕ Int)) :=
  zbr y16 200 (200 ≤ y16) (some (.inr (.inr 0))) (zbl y10 0 (y10 = 0) (some (.inr (.inr 0))) (zbl y14 0 (y14 = 0) (some (.inr (.inr 0))) (zgd ((0 ≤ y8 ∧ y8 ≤ 9223372036854775807) ∧ 0 < y10 ∧ y10 ≤ 9223372036854775807) (zgd ((0 ≤ y12 ∧ y12 ≤ 9223372036854775807) ∧ 0 < y14 ∧ y14 ≤ 9223372036854775807) (zb1 (f_J13_compare_74951 k (y8 / y10) (y12 / y14) M0) (fun v1 => zbr v1 0 (v1 = 0) (zgd ((0 ≤ y8 ∧ y8 ≤ 9223372036854775807) ∧ 0 < y10 ∧ y10 ≤ 9223372036854775807) (zlt (y8 % y10) (fun x3 => zgd ((0 ≤ y12 ∧ y12 ≤ 9223372036854775807) ∧ 0 < y14 ∧ y14 ≤ 9223372036854775807) (zlt (y12 % y14) (fun x4 => zbl x3 0 (x3 = 0) (some (.inr (.inl (x3, x4)))) (zbl x4 0 (¬ x4 = 0) (zlt (y16 + 1) (fun x5 => some (.inl (y14, x4, y10, x3, x5)))) (some (.inr (.inl (x3, x4)))))))))) (some (.inr (.inr v1)))))))))
def f_X5_compare (k : zK)  (p0 : Int) (p2 : Int) (p4 : Int) (p6 : Int) (M0 : zM) : Option Int :=
  zsp2 (zw5 (fb_X5_compare_17 k M0) zfu p0 p2 p4 p6 0) (fun r => some ((r))) (fun x6 x7 => zb1 (f_J13_compare_74951 k x6 x7 M0) (fun v8 => some v8))
theorem vl_X5_compare_17 {κ : zC} {w : zW} (hw : zWk w)    (M0 : zM) (E : ((Int × Int) ⊕ Int) → Prop) (hX : ∀ (u18 : Int) (u20 : Int), E (.inl (u18, u20)) → zB cX5_compare RX5 22 (some .int) κ w (0, 0, 1) 90 [(18, jv u18), (20, jv u20)] [] M0) (hR : ∀ r, E (.inr r) → zRt κ w (0, 0, 1) 1 (M0, r)) (y8 : Int) (y10 : Int) (y12 : Int) (y14 : Int) (y16 : Int) :
    zV cX5_compare RX5 22 (some .int) κ w (0, 0, 1) 17 [(8, jv y8), (10, jv y10), (12, jv y12), (14, jv y14), (16, iv y16)] [] M0 (zw5 (fb_X5_compare_17 w.1 M0) zfu y8 y10 y12 y14 y16) E := by
  have hT := hw.1
  refine zv_loop5 (fun y8 y10 y12 y14 y16 => [(8, jv y8), (10, jv y10), (12, jv y12), (14, jv y14), (16, iv y16)]) (fun y8 y10 y12 y14 y16 => M0) (fun y8 y10 y12 y14 y16 => ?_) y8 y10 y12 y14 y16
  unfold fb_X5_compare_17
  refine zv_iload dX5_compare_17 4 rfl ?_
  refine zv_sipush (z := 200) dX5_compare_19 (by decide) ?_
  refine zv_icmp_ge (tgt := 120) dX5_compare_22 (by decide) ?_ ?_
  · refine zv_iconst (z := 0) dX5_compare_120 ?_
    exact zv_ret (fun h => hR _ h) (zv_iret dX5_compare_121)
  refine zv_lload dX5_compare_25 1 rfl ?_
  refine zv_lconst (z := 0) dX5_compare_27 (by decide) ?_
  refine zv_lcmp_eq (tgt := 120) dX5_compare_28 dX5_compare_29 (by decide) ?_ ?_
  · refine zv_iconst (z := 0) dX5_compare_120 ?_
    exact zv_ret (fun h => hR _ h) (zv_iret dX5_compare_121)
  refine zv_lload dX5_compare_32 3 rfl ?_
  refine zv_lconst (z := 0) dX5_compare_34 (by decide) ?_
  refine zv_lcmp_eq (tgt := 120) dX5_compare_35 dX5_compare_36 (by decide) ?_ ?_
  · refine zv_iconst (z := 0) dX5_compare_120 ?_
    exact zv_ret (fun h => hR _ h) (zv_iret dX5_compare_121)
  refine zv_lload dX5_compare_39 0 rfl ?_
  refine zv_lload dX5_compare_41 1 rfl ?_
  refine zv_ldiv dX5_compare_43 ?_
  refine zv_lload dX5_compare_44 2 rfl ?_
  refine zv_lload dX5_compare_46 3 rfl ?_
  refine zv_ldiv dX5_compare_48 ?_
  refine zv_pc (zv_callSi [jv (y8 / y10), jv (y12 / y14)] (c_J13_compare_74951 κ.2.1 hw (y8 / y10) (y12 / y14) M0 ) zmd_J13_compare_74951 zwT_J13_compare_74951 zwM_RX5_16 rfl (by decide) rfl (Nat.le_of_ble_eq_true rfl) dX5_compare_49 (fun mh2 v1 h2 => ?_))
  obtain rfl := zpuE h2
  refine zv_istore_p (L' := [(17, iv v1), (8, jv y8), (10, jv y10), (12, jv y12), (14, jv y14), (16, iv y16)]) dX5_compare_52 (by decide) rfl ?_
  refine zv_iload dX5_compare_54 0 rfl ?_
  refine zv_if_eq (tgt := 62) dX5_compare_56 (by decide) ?_ ?_
  · refine zv_lload dX5_compare_62 1 rfl ?_
    refine zv_lload dX5_compare_64 2 rfl ?_
    refine zv_lrem dX5_compare_66 ?_
    refine zv_lstore dX5_compare_67 (fun x3 => [(18, jv x3), (17, iv v1), (8, jv y8), (10, jv y10), (12, jv y12), (14, jv y14), (16, iv y16)]) (by decide) (fun _ => rfl) (fun x3 => ?_)
    refine zv_lload dX5_compare_69 4 rfl ?_
    refine zv_lload dX5_compare_71 5 rfl ?_
    refine zv_lrem dX5_compare_73 ?_
    refine zv_lstore dX5_compare_74 (fun x4 => [(20, jv x4), (18, jv x3), (17, iv v1), (8, jv y8), (10, jv y10), (12, jv y12), (14, jv y14), (16, iv y16)]) (by decide) (fun _ => rfl) (fun x4 => ?_)
    refine zv_lload dX5_compare_76 1 rfl ?_
    refine zv_lconst (z := 0) dX5_compare_78 (by decide) ?_
    refine zv_lcmp_eq (tgt := 90) dX5_compare_79 dX5_compare_80 (by decide) ?_ ?_
    · exact zv_sub (L' := [(18, jv x3), (20, jv x4)]) [1, 0] rfl (zv_exit (fun h => hX _ _ h))
    refine zv_lload dX5_compare_83 0 rfl ?_
    refine zv_lconst (z := 0) dX5_compare_85 (by decide) ?_
    refine zv_lcmp_ne (tgt := 98) dX5_compare_86 dX5_compare_87 (by decide) ?_ ?_
    · refine zv_lload dX5_compare_98 6 rfl ?_
      refine zv_lstore_p (L' := [(8, jv y14), (20, jv x4), (18, jv x3), (17, iv v1), (10, jv y10), (12, jv y12), (14, jv y14), (16, iv y16)]) dX5_compare_100 (by decide) rfl ?_
      refine zv_lload dX5_compare_102 2 rfl ?_
      refine zv_lstore_p (L' := [(14, jv x3), (8, jv y14), (20, jv x4), (18, jv x3), (17, iv v1), (10, jv y10), (12, jv y12), (16, iv y16)]) dX5_compare_104 (by decide) rfl ?_
      refine zv_lload dX5_compare_106 5 rfl ?_
      refine zv_lstore_p (L' := [(12, jv y10), (14, jv x3), (8, jv y14), (20, jv x4), (18, jv x3), (17, iv v1), (10, jv y10), (16, iv y16)]) dX5_compare_108 (by decide) rfl ?_
      refine zv_lload dX5_compare_110 3 rfl ?_
      refine zv_lstore_p (L' := [(10, jv x4), (12, jv y10), (14, jv x3), (8, jv y14), (20, jv x4), (18, jv x3), (17, iv v1), (16, iv y16)]) dX5_compare_112 (by decide) rfl ?_
      refine zv_iinc dX5_compare_114 7 rfl (fun x5 => [(16, iv x5), (10, jv x4), (12, jv y10), (14, jv x3), (8, jv y14), (20, jv x4), (18, jv x3), (17, iv v1)]) (by decide) (fun _ => rfl) (fun x5 => ?_)
      refine zv_goto (tgt := 17) dX5_compare_117 (by decide) ?_
      exact zv_sub (L' := [(8, jv y14), (10, jv x4), (12, jv y10), (14, jv x3), (16, iv x5)]) [4, 1, 2, 3, 0] rfl (zv_exit (fun h => h))
    exact zv_sub (L' := [(18, jv x3), (20, jv x4)]) [1, 0] rfl (zv_exit (fun h => hX _ _ h))
  refine zv_iload dX5_compare_59 0 rfl ?_
  exact zv_ret (fun h => hR _ h) (zv_iret dX5_compare_61)
theorem c_X5_compare (l : Launch) {w : zW} (hw : zWk w)  (p0 : Int) (p2 : Int) (p4 : Int) (p6 : Int) (M0 : zM)  : zCn l yX5_compare cX5_compare 22 (some .int) (1) 1 w [jv p0, jv p2, jv p4, jv p6] M0 ((f_X5_compare w.1 p0 p2 p4 p6 M0).map fun v => (M0, v)) := by
  have hT := hw.1
  refine zCn_ofP (own := RX5) (by decide) rfl hw (Nat.le_of_ble_eq_true rfl) [(0, jv p0), (2, jv p2), (4, jv p4), (6, jv p6)] rfl ?_
  intro κ hl
  subst hl
  unfold f_X5_compare
  refine zv_lload_n dX5_compare_0 0 rfl ?_
  refine zv_lstore_p (L' := [(8, jv p0), (0, jv p0), (2, jv p2), (4, jv p4), (6, jv p6)]) dX5_compare_1 (by decide) rfl ?_
  refine zv_lload_n dX5_compare_3 2 rfl ?_
  refine zv_lstore_p (L' := [(10, jv p2), (8, jv p0), (0, jv p0), (2, jv p2), (4, jv p4), (6, jv p6)]) dX5_compare_4 (by decide) rfl ?_
  refine zv_lload dX5_compare_6 4 rfl ?_
  refine zv_lstore_p (L' := [(12, jv p4), (10, jv p2), (8, jv p0), (0, jv p0), (2, jv p2), (4, jv p4), (6, jv p6)]) dX5_compare_8 (by decide) rfl ?_
  refine zv_lload dX5_compare_10 6 rfl ?_
  refine zv_lstore_p (L' := [(14, jv p6), (12, jv p4), (10, jv p2), (8, jv p0), (0, jv p0), (2, jv p2), (4, jv p4), (6, jv p6)]) dX5_compare_12 (by decide) rfl ?_
  refine zv_iconst (z := 0) dX5_compare_14 ?_
  refine zv_istore_p (L' := [(16, iv 0), (14, jv p6), (12, jv p4), (10, jv p2), (8, jv p0), (0, jv p0), (2, jv p2), (4, jv p4), (6, jv p6)]) dX5_compare_15 (by decide) rfl ?_
  refine zv_joinS2 (fun r => (r)) 90 (fun x6 x7 => [(18, jv x6), (20, jv x7)]) (fun x6 x7 => []) (fun x6 x7 => M0) (zv_sub (L' := [(8, jv p0), (10, jv p2), (12, jv p4), (14, jv p6), (16, iv 0)]) [4, 3, 2, 1, 0] rfl (vl_X5_compare_17 hw M0 _ (fun _ _ h => h) (fun _ h => ((fun h => h)) h) p0 p2 p4 p6 0)) (fun x6 x7 => ?_)
  refine zv_lload dX5_compare_90 0 rfl ?_
  refine zv_lload dX5_compare_92 1 rfl ?_
  refine zv_pc (zv_callSi [jv x6, jv x7] (c_J13_compare_74951 κ.2.1 hw x6 x7 M0 ) zmd_J13_compare_74951 zwT_J13_compare_74951 zwM_RX5_16 rfl (by decide) rfl (Nat.le_of_ble_eq_true rfl) dX5_compare_94 (fun mh9 v8 h9 => ?_))
  obtain rfl := zpuE h9
  exact zv_ret (fun h => h) (zv_iret dX5_compare_97)
def fb_X10_doubt_36 (k : zK)  (l0 : Nat) (l2 : Nat) (y3 : Int) (y4 : Int) (y6 : Int) (y8 : Int) (M0 : zM) : Option ((Int × Int × Int × Int × zM) ⊕ (Int × zM)) :=
  zbr y8 (M0 (zfr k l0 1) 18) (M0 (zfr k l0 1) 18 ≤ y8) (some (.inr (y3, M0))) (zgd (0 ≤ y8 ∧ y8 < 10) (zb1 (f_X10_reckonLeft k l0 (M0 (zfr k (zfr k l0 1) 10) y8.toNat) l2 M0) (fun M6 => zgd (zrl ((2 * (M6 (zfr k l0 8) 0)) - (M6 (zfr k l0 8) 1)) ∧ -9223372036854775807 ≤ (2 * (M6 (zfr k l0 8) 0)) - (M6 (zfr k l0 8) 1)) (zlt (zabs ((2 * (M6 (zfr k l0 8) 0)) - (M6 (zfr k l0 8) 1))) (fun x7 => zsp1 (zbr y8 0 (y8 = 0) (some (.inl y8)) (zb1 (f_X5_compare k x7 (M6 (zfr k l0 8) 1) y4 y6 M6) (fun v8 => zbr v8 0 (0 ≤ v8) (zlt (y8 + 1) (fun x10 => some (.inr (.inl (y3, y4, y6, x10, M6))))) (some (.inl y8))))) (fun r => some r) (fun x11 => zlt (M6 (zfr k l0 8) 1) (fun x12 => zlt (x11 + 1) (fun x13 => some (.inl (x11, x7, x12, x13, M6))))))))))
def f_X10_doubt (k : zK)  (p0 : Nat) (p1 : Int) (M0 : zM) : Option (zM × Int) :=
  zb1 (f_X10_isAge k p1 M0) (fun v1 => zbr v1 0 (v1 = 0) (some (M0, (-1))) (zbr (M0 (zfr k p0 1) 18) 0 (¬ M0 (zfr k p0 1) 18 = 0) (zbd (f_X10_viewAt k p0 p1 M0) (fun M4 v3 => zgd (ztag k v3.toNat = 9) (zb2 (zw5 (fb_X10_doubt_36 k p0 (v3.toNat)) zfu 0 0 1 0 M4) (fun x14 M15 => some (M15, x14))))) (some (M0, (-1)))))
theorem vl_X10_doubt_36 {κ : zC} {w : zW} (hw : zWk w)  (l0 : Nat) (l2 : Nat) (g0 : ztag w.1 l0 = 11) (g2 : ztag w.1 l2 = 9)  (E : (Int × zM) → Prop) (hX : ∀ (u3 : Int) (M1 : zM), E (u3, M1) → zB cX10_doubt RX10 11 (some .int) κ w (0, 0, 6) 133 [(3, iv u3)] [] M1)  (y3 : Int) (y4 : Int) (y6 : Int) (y8 : Int) (M0 : zM) :
    zV cX10_doubt RX10 11 (some .int) κ w (0, 0, 6) 36 [(3, iv y3), (4, jv y4), (6, jv y6), (8, iv y8), (0, rn w l0), (2, rn w l2)] [] M0 (zw5 (fb_X10_doubt_36 w.1 l0 l2) zfu y3 y4 y6 y8 M0) E := by
  have hT := hw.1
  refine zv_loop5 (fun y3 y4 y6 y8 M0 => [(3, iv y3), (4, jv y4), (6, jv y6), (8, iv y8), (0, rn w l0), (2, rn w l2)]) (fun y3 y4 y6 y8 M0 => M0) (fun y3 y4 y6 y8 M0 => ?_) y3 y4 y6 y8 M0
  unfold fb_X10_doubt_36
  refine zv_iload dX10_doubt_36 3 rfl ?_
  refine zv_rload_n dX10_doubt_38 4 rfl ?_
  refine zg_RX10_19 dX10_doubt_39 g0 ?_
  refine zg_RX10_172 dX10_doubt_42 (zta_10_1 hT g0) ?_
  refine zv_icmp_ge (tgt := 133) dX10_doubt_45 (by decide) ?_ ?_
  · exact zv_sub (L' := [(3, iv y3)]) [0] rfl (zv_exit (fun h => hX _ _ h))
  refine zv_rload_n dX10_doubt_48 4 rfl ?_
  refine zv_rload_n dX10_doubt_49 4 rfl ?_
  refine zg_RX10_19 dX10_doubt_50 g0 ?_
  refine zg_RX10_175 dX10_doubt_53 (zta_10_1 hT g0) ?_
  refine zv_iload dX10_doubt_56 3 rfl ?_
  refine zv_iald dX10_doubt_58 (zta_7_10 hT (zta_10_1 hT g0)) (ztl_7_10 hT (zta_10_1 hT g0)) (by decide) ?_
  refine zv_rload_n dX10_doubt_59 5 rfl ?_
  refine zv_vc (zv_callVv [iv (M0 (zfr w.1 (zfr w.1 l0 1) 10) y8.toNat), rn w l2] (c_X10_reckonLeft κ.2.1 hw l0 (M0 (zfr w.1 (zfr w.1 l0 1) 10) y8.toNat) l2 M0 g0 g2) zmd_X10_reckonLeft zwI_X10_reckonLeft zwS_X10_reckonLeft zwM_RX10_299 zcd_10 g0 rfl (by decide) rfl (Nat.le_of_ble_eq_true rfl) dX10_doubt_60 (fun M6 _ _ => ?_))
  refine zv_ldc2 (z := 2) dX10_doubt_63 zwK_RX10_360 (by decide) ?_
  refine zv_rload_n dX10_doubt_66 4 rfl ?_
  refine zg_RX10_63 dX10_doubt_67 g0 ?_
  refine zg_RX10_362 dX10_doubt_70 (zta_10_8 hT g0) ?_
  refine zv_lmul dX10_doubt_73 ?_
  refine zv_rload_n dX10_doubt_74 4 rfl ?_
  refine zg_RX10_63 dX10_doubt_75 g0 ?_
  refine zg_RX10_366 dX10_doubt_78 (zta_10_8 hT g0) ?_
  refine zv_lsub dX10_doubt_81 ?_
  refine zv_mabsl zwM_RX10_415 (by decide) (Nat.le_of_ble_eq_true rfl) dX10_doubt_82 ?_
  refine zv_lstore dX10_doubt_85 (fun x7 => [(9, jv x7), (3, iv y3), (4, jv y4), (6, jv y6), (8, iv y8), (0, rn w l0), (2, rn w l2)]) (by decide) (fun _ => rfl) (fun x7 => ?_)
  refine zv_iload dX10_doubt_87 4 rfl ?_
  refine zv_joinS1 (fun r => r) 111 (fun x11 => [(8, iv x11), (9, jv x7), (0, rn w l0), (2, rn w l2)]) (fun x11 => []) (fun x11 => M6) ?_ (fun x11 => ?_)
  · refine zv_if_eq (tgt := 111) dX10_doubt_89 (by decide) ?_ ?_
    · exact zv_sub (L' := [(8, iv y8), (9, jv x7), (0, rn w l0), (2, rn w l2)]) [4, 0, 5, 6] rfl (zv_exit (fun h => h))
    refine zv_lload dX10_doubt_92 0 rfl ?_
    refine zv_rload_n dX10_doubt_94 5 rfl ?_
    refine zg_RX10_63 dX10_doubt_95 g0 ?_
    refine zg_RX10_366 dX10_doubt_98 (zta_10_8 hT g0) ?_
    refine zv_lload dX10_doubt_101 2 rfl ?_
    refine zv_lload dX10_doubt_103 3 rfl ?_
    refine zv_pc (zv_callSi [jv x7, jv (M6 (zfr w.1 l0 8) 1), jv y4, jv y6] (c_X5_compare κ.2.1 hw x7 (M6 (zfr w.1 l0 8) 1) y4 y6 M6 ) zmd_X5_compare zwT_X5_compare zwM_RX10_417 rfl (by decide) rfl (Nat.le_of_ble_eq_true rfl) dX10_doubt_105 (fun mh9 v8 h9 => ?_))
    obtain rfl := zpuE h9
    refine zv_if_ge (tgt := 127) dX10_doubt_108 (by decide) ?_ ?_
    · refine zv_iinc dX10_doubt_127 4 rfl (fun x10 => [(8, iv x10), (9, jv x7), (3, iv y3), (4, jv y4), (6, jv y6), (0, rn w l0), (2, rn w l2)]) (by decide) (fun _ => rfl) (fun x10 => ?_)
      refine zv_goto (tgt := 36) dX10_doubt_130 (by decide) ?_
      exact zv_sub (L' := [(3, iv y3), (4, jv y4), (6, jv y6), (8, iv x10), (0, rn w l0), (2, rn w l2)]) [2, 3, 4, 0, 5, 6] rfl (zv_exit (fun h => h))
    exact zv_sub (L' := [(8, iv y8), (9, jv x7), (0, rn w l0), (2, rn w l2)]) [4, 0, 5, 6] rfl (zv_exit (fun h => h))
  refine zv_iload dX10_doubt_111 0 rfl ?_
  refine zv_istore_np (L' := [(3, iv x11), (8, iv x11), (9, jv x7), (0, rn w l0), (2, rn w l2)]) (by rfl) dX10_doubt_113 (by decide) rfl ?_
  refine zv_lload dX10_doubt_114 2 rfl ?_
  refine zv_lstore_p (L' := [(4, jv x7), (3, iv x11), (8, iv x11), (9, jv x7), (0, rn w l0), (2, rn w l2)]) dX10_doubt_116 (by decide) rfl ?_
  refine zv_rload_n dX10_doubt_118 4 rfl ?_
  refine zg_RX10_63 dX10_doubt_119 g0 ?_
  refine zg_RX10_366 dX10_doubt_122 (zta_10_8 hT g0) ?_
  refine zv_lstore dX10_doubt_125 (fun x12 => [(6, jv x12), (4, jv x7), (3, iv x11), (8, iv x11), (9, jv x7), (0, rn w l0), (2, rn w l2)]) (by decide) (fun _ => rfl) (fun x12 => ?_)
  refine zv_iinc dX10_doubt_127 3 rfl (fun x13 => [(8, iv x13), (6, jv x12), (4, jv x7), (3, iv x11), (9, jv x7), (0, rn w l0), (2, rn w l2)]) (by decide) (fun _ => rfl) (fun x13 => ?_)
  refine zv_goto (tgt := 36) dX10_doubt_130 (by decide) ?_
  exact zv_sub (L' := [(3, iv x11), (4, jv x7), (6, jv x12), (8, iv x13), (0, rn w l0), (2, rn w l2)]) [3, 2, 1, 0, 5, 6] rfl (zv_exit (fun h => h))
theorem c_X10_doubt (l : Launch) {w : zW} (hw : zWk w)  (p0 : Nat) (p1 : Int) (M0 : zM) (hp0 : ztag w.1 p0 = 11) : zCn l yX10_doubt cX10_doubt 11 (some .int) (6) 1 w [rn w p0, iv p1] M0 (f_X10_doubt w.1 p0 p1 M0) := by
  have hT := hw.1
  refine zCn_of (own := RX10) (by decide) rfl hw (Nat.le_of_ble_eq_true rfl) [(0, rn w p0), (1, iv p1)] rfl ?_
  intro κ hl
  subst hl
  unfold f_X10_doubt
  refine zv_iload_n dX10_doubt_0 1 rfl ?_
  refine zv_pc (zv_callSi [iv p1] (c_X10_isAge κ.2.1 hw p1 M0 ) zmd_X10_isAge zwT_X10_isAge zwM_RX10_197 rfl (by decide) rfl (Nat.le_of_ble_eq_true rfl) dX10_doubt_1 (fun mh2 v1 h2 => ?_))
  obtain rfl := zpuE h2
  refine zv_if_eq (tgt := 17) dX10_doubt_4 (by decide) ?_ ?_
  · refine zv_iconst (z := (-1)) dX10_doubt_17 ?_
    exact zv_ret (fun h => h) (zv_iret dX10_doubt_18)
  refine zv_rload_n dX10_doubt_7 0 rfl ?_
  refine zg_RX10_19 dX10_doubt_8 hp0 ?_
  refine zg_RX10_172 dX10_doubt_11 (zta_10_1 hT hp0) ?_
  refine zv_if_ne (tgt := 19) dX10_doubt_14 (by decide) ?_ ?_
  · refine zv_rload_n dX10_doubt_19 0 rfl ?_
    refine zv_iload_n dX10_doubt_20 1 rfl ?_
    refine (zv_callVr [iv p1] (c_X10_viewAt κ.2.1 hw p0 p1 M0 hp0) zmd_X10_viewAt zwI_X10_viewAt zwS_X10_viewAt zwM_RX10_236 zcd_10 hp0 rfl (by decide) rfl (Nat.le_of_ble_eq_true rfl) dX10_doubt_21 (fun M4 v3 _ => ?_))
    refine zv_gd (fun h5 => ?_)
    refine zv_rstore_np (L' := [(2, rn w (v3.toNat)), (0, rn w p0), (1, iv p1)]) (by rfl) dX10_doubt_24 (by decide) rfl ?_
    refine zv_iconst (z := 0) dX10_doubt_25 ?_
    refine zv_istore_np (L' := [(3, iv 0), (2, rn w (v3.toNat)), (0, rn w p0), (1, iv p1)]) (by rfl) dX10_doubt_26 (by decide) rfl ?_
    refine zv_lconst (z := 0) dX10_doubt_27 (by decide) ?_
    refine zv_lstore_p (L' := [(4, jv 0), (3, iv 0), (2, rn w (v3.toNat)), (0, rn w p0), (1, iv p1)]) dX10_doubt_28 (by decide) rfl ?_
    refine zv_lconst (z := 1) dX10_doubt_30 (by decide) ?_
    refine zv_lstore_p (L' := [(6, jv 1), (4, jv 0), (3, iv 0), (2, rn w (v3.toNat)), (0, rn w p0), (1, iv p1)]) dX10_doubt_31 (by decide) rfl ?_
    refine zv_iconst (z := 0) dX10_doubt_33 ?_
    refine zv_istore_p (L' := [(8, iv 0), (6, jv 1), (4, jv 0), (3, iv 0), (2, rn w (v3.toNat)), (0, rn w p0), (1, iv p1)]) dX10_doubt_34 (by decide) rfl ?_
    refine zv_join2 133 (fun x14 M15 => [(3, iv x14)]) (fun x14 M15 => []) (fun x14 M15 => M15) (zv_sub (L' := [(3, iv 0), (4, jv 0), (6, jv 1), (8, iv 0), (0, rn w p0), (2, rn w (v3.toNat))]) [3, 2, 1, 0, 5, 4] rfl (vl_X10_doubt_36 hw p0 (v3.toNat) hp0 h5 _ (fun _ _ h => h) 0 0 1 0 M4)) (fun x14 M15 => ?_)
    refine zv_iload_n dX10_doubt_133 0 rfl ?_
    exact zv_ret (fun h => h) (zv_iret dX10_doubt_134)
  refine zv_iconst (z := (-1)) dX10_doubt_17 ?_
  exact zv_ret (fun h => h) (zv_iret dX10_doubt_18)
def f_X10_isKind (k : zK)  (p0 : Int) (M0 : zM) : Option Int :=
  zbr p0 0 (p0 < 0) (some 0) (zbr p0 16 (16 ≤ p0) (some 0) (some 1))
theorem c_X10_isKind (l : Launch) {w : zW} (hw : zWk w)  (p0 : Int) (M0 : zM)  : zCn l yX10_isKind cX10_isKind 1 (some .boolean) (0) 1 w [iv p0] M0 ((f_X10_isKind w.1 p0 M0).map fun v => (M0, v)) := by
  have hT := hw.1
  refine zCn_ofP (own := RX10) (by decide) rfl hw (Nat.le_of_ble_eq_true rfl) [(0, iv p0)] rfl ?_
  intro κ hl
  subst hl
  unfold f_X10_isKind
  refine zv_iload_n dX10_isKind_0 0 rfl ?_
  refine zv_if_lt (tgt := 14) dX10_isKind_1 (by decide) ?_ ?_
  · refine zv_iconst (z := 0) dX10_isKind_14 ?_
    exact zv_ret (fun h => h) (zv_zrB (by decide) dX10_isKind_15)
  refine zv_iload_n dX10_isKind_4 0 rfl ?_
  refine zv_bipush (z := 16) dX10_isKind_5 (by decide) ?_
  refine zv_icmp_ge (tgt := 14) dX10_isKind_7 (by decide) ?_ ?_
  · refine zv_iconst (z := 0) dX10_isKind_14 ?_
    exact zv_ret (fun h => h) (zv_zrB (by decide) dX10_isKind_15)
  refine zv_iconst (z := 1) dX10_isKind_10 ?_
  refine zv_goto (tgt := 15) dX10_isKind_11 (by decide) ?_
  exact zv_ret (fun h => h) (zv_zrB (by decide) dX10_isKind_15)
def f_X10_dry (k : zK)  (p0 : Nat) (p1 : Int) (p2 : Int) (M0 : zM) : Option (zM × Int) :=
  zb1 (f_X10_isKind k p1 M0) (fun v1 => zbr v1 0 (¬ v1 = 0) (zbr (M0 (zfr k p0 1) 16) 80 (M0 (zfr k p0 1) 16 < 80) (zgd (0 ≤ p1 ∧ p1 < 16) (zgd (0 ≤ p1 ∧ p1 < 16) (zlt (zst M0 (zfr k (zfr k p0 1) 4) p1.toNat ((M0 (zfr k (zfr k p0 1) 4) p1.toNat) + 1)) (fun M3 => zb1 (zbr p2 0 (p2 = 0) (some (M3)) (zgd (0 ≤ p1 ∧ p1 < 16) (zgd (0 ≤ p1 ∧ p1 < 16) (zlt (zst M3 (zfr k (zfr k p0 1) 5) p1.toNat ((M3 (zfr k (zfr k p0 1) 5) p1.toNat) + 1)) (fun M4 => some (M4)))))) (fun M5 => zlt (zst M5 (zfr k p0 1) 16 ((M5 (zfr k p0 1) 16) + 1)) (fun M6 => zb1 (f_X9_forget k (zfr k p0 7) M6) (fun M7 => some (M7, M7 (zfr k p0 1) 16)))))))) (zbd (f_X10_refuse k p0 1 M0) (fun M9 v8 => some (M9, v8)))) (zbd (f_X10_refuse k p0 0 M0) (fun M11 v10 => some (M11, v10))))
theorem c_X10_dry (l : Launch) {w : zW} (hw : zWk w)  (p0 : Nat) (p1 : Int) (p2 : Int) (M0 : zM) (hp0 : ztag w.1 p0 = 11) : zCn l yX10_dry cX10_dry 3 (some .int) (1) 1 w [rn w p0, iv p1, iv p2] M0 (f_X10_dry w.1 p0 p1 p2 M0) := by
  have hT := hw.1
  refine zCn_of (own := RX10) (by decide) rfl hw (Nat.le_of_ble_eq_true rfl) [(0, rn w p0), (1, iv p1), (2, iv p2)] rfl ?_
  intro κ hl
  subst hl
  unfold f_X10_dry
  refine zv_iload_n dX10_dry_0 1 rfl ?_
  refine zv_pc (zv_callSi [iv p1] (c_X10_isKind κ.2.1 hw p1 M0 ) zmd_X10_isKind zwT_X10_isKind zwM_RX10_126 rfl (by decide) rfl (Nat.le_of_ble_eq_true rfl) dX10_dry_1 (fun mh2 v1 h2 => ?_))
  obtain rfl := zpuE h2
  refine zv_if_ne (tgt := 13) dX10_dry_4 (by decide) ?_ ?_
  · refine zv_rload_n dX10_dry_13 0 rfl ?_
    refine zg_RX10_19 dX10_dry_14 hp0 ?_
    refine zg_RX10_129 dX10_dry_17 (zta_10_1 hT hp0) ?_
    refine zv_bipush (z := 80) dX10_dry_20 (by decide) ?_
    refine zv_icmp_lt (tgt := 31) dX10_dry_22 (by decide) ?_ ?_
    · refine zv_rload_n dX10_dry_31 0 rfl ?_
      refine zg_RX10_19 dX10_dry_32 hp0 ?_
      refine zg_RX10_132 dX10_dry_35 (zta_10_1 hT hp0) ?_
      refine zv_iload_n dX10_dry_38 1 rfl ?_
      refine zv_dup2 dX10_dry_39 rfl rfl ?_
      refine zv_iald dX10_dry_40 (zta_7_4 hT (zta_10_1 hT hp0)) (ztl_7_4 hT (zta_10_1 hT hp0)) (by decide) ?_
      refine zv_iconst (z := 1) dX10_dry_41 ?_
      refine zv_iadd dX10_dry_42 ?_
      refine zv_iast dX10_dry_43 (zta_7_4 hT (zta_10_1 hT hp0)) (ztl_7_4 hT (zta_10_1 hT hp0)) (by decide) (fun M3 => ?_)
      refine zv_iload_n dX10_dry_44 2 rfl ?_
      refine zv_join1 61 (fun M5 => [(0, rn w p0)]) (fun M5 => []) (fun M5 => M5) ?_ (fun M5 => ?_)
      · refine zv_if_eq (tgt := 61) dX10_dry_45 (by decide) ?_ ?_
        · exact zv_sub (L' := [(0, rn w p0)]) [0] rfl (zv_exit (fun h => h))
        refine zv_rload_n dX10_dry_48 0 rfl ?_
        refine zg_RX10_19 dX10_dry_49 hp0 ?_
        refine zg_RX10_135 dX10_dry_52 (zta_10_1 hT hp0) ?_
        refine zv_iload_n dX10_dry_55 1 rfl ?_
        refine zv_dup2 dX10_dry_56 rfl rfl ?_
        refine zv_iald dX10_dry_57 (zta_7_5 hT (zta_10_1 hT hp0)) (ztl_7_5 hT (zta_10_1 hT hp0)) (by decide) ?_
        refine zv_iconst (z := 1) dX10_dry_58 ?_
        refine zv_iadd dX10_dry_59 ?_
        refine zv_iast dX10_dry_60 (zta_7_5 hT (zta_10_1 hT hp0)) (ztl_7_5 hT (zta_10_1 hT hp0)) (by decide) (fun M4 => ?_)
        exact zv_sub (L' := [(0, rn w p0)]) [0] rfl (zv_exit (fun h => h))
      refine zv_rload_n dX10_dry_61 0 rfl ?_
      refine zg_RX10_19 dX10_dry_62 hp0 ?_
      refine zv_dup dX10_dry_65 rfl ?_
      refine zg_RX10_129 dX10_dry_66 (zta_10_1 hT hp0) ?_
      refine zv_iconst (z := 1) dX10_dry_69 ?_
      refine zv_iadd dX10_dry_70 ?_
      refine zp_RX10_129 dX10_dry_71 (zta_10_1 hT hp0) (fun M6 => ?_)
      refine zv_rload_n dX10_dry_74 0 rfl ?_
      refine zg_RX10_56 dX10_dry_75 hp0 ?_
      refine zv_vc (zv_callVv [] (c_X9_forget κ.2.1 hw (zfr w.1 p0 7) M6 (zta_10_7 hT hp0)) zmd_X9_forget zwI_X9_forget zwS_X9_forget zwM_RX10_138 zcd_9 (zta_10_7 hT hp0) rfl (by decide) rfl (Nat.le_of_ble_eq_true rfl) dX10_dry_78 (fun M7 _ _ => ?_))
      refine zv_rload_n dX10_dry_81 0 rfl ?_
      refine zg_RX10_19 dX10_dry_82 hp0 ?_
      refine zg_RX10_129 dX10_dry_85 (zta_10_1 hT hp0) ?_
      exact zv_ret (fun h => h) (zv_iret dX10_dry_88)
    refine zv_rload_n dX10_dry_25 0 rfl ?_
    refine zv_iconst (z := 1) dX10_dry_26 ?_
    refine (zv_callVi [iv 1] (c_X10_refuse κ.2.1 hw p0 1 M0 hp0) zmd_X10_refuse zwI_X10_refuse zwS_X10_refuse zwM_RX10_99 zcd_10 hp0 rfl (by decide) rfl (Nat.le_of_ble_eq_true rfl) dX10_dry_27 (fun M9 v8 _ => ?_))
    exact zv_ret (fun h => h) (zv_iret dX10_dry_30)
  refine zv_rload_n dX10_dry_7 0 rfl ?_
  refine zv_iconst (z := 0) dX10_dry_8 ?_
  refine (zv_callVi [iv 0] (c_X10_refuse κ.2.1 hw p0 0 M0 hp0) zmd_X10_refuse zwI_X10_refuse zwS_X10_refuse zwM_RX10_99 zcd_10 hp0 rfl (by decide) rfl (Nat.le_of_ble_eq_true rfl) dX10_dry_9 (fun M11 v10 _ => ?_))
  exact zv_ret (fun h => h) (zv_iret dX10_dry_12)
def fb_X10_ends_42 (k : zK)  (l0 : Nat) (l3 : Int) (M0 : zM) (y4 : Int) (y5 : Int) : Option ((Int × Int) ⊕ (Int)) :=
  zbr y5 256 (256 ≤ y5) (some (.inr y4)) (zgd (0 ≤ y5 ∧ y5 < 256) (zbr (M0 (zfr k (zfr k l0 4) 7) y5.toNat) l3 (¬ M0 (zfr k (zfr k l0 4) 7) y5.toNat = l3) (zlt (y5 + 1) (fun x7 => some (.inl (y4, x7)))) (zlt (y4 + 1) (fun x8 => zlt (y5 + 1) (fun x9 => some (.inl (x8, x9)))))))
def f_X10_ends (k : zK)  (p0 : Nat) (p1 : Int) (p2 : Int) (M0 : zM) : Option (zM × Int) :=
  zb1 (f_X10_isCell k p1 M0) (fun v1 => zbr v1 0 (v1 = 0) (some (M0, (-1))) (zb1 (f_X10_isPart k p2 M0) (fun v3 => zbr v3 0 (¬ v3 = 0) (zb1 (f_X10_settle k p0 M0) (fun M5 => zgd (0 ≤ p1 ∧ p1 < 256) (zlt (M5 (zfr k (zfr k p0 4) 7) p1.toNat) (fun x6 => zbr p2 0 (¬ p2 = 0) (zb1 (zw2 (fb_X10_ends_42 k p0 x6 M5) zfu 0 0) (fun x10 => some (M5, x10))) (some (M5, x6)))))) (some (M0, (-1))))))
theorem vl_X10_ends_42 {κ : zC} {w : zW} (hw : zWk w)  (l0 : Nat) (l3 : Int) (g0 : ztag w.1 l0 = 11) (M0 : zM) (E : (Int) → Prop) (hX : ∀ (u4 : Int), E u4 → zB cX10_ends RX10 6 (some .int) κ w (0, 0, 5) 73 [(4, iv u4)] [] M0)  (y4 : Int) (y5 : Int) :
    zV cX10_ends RX10 6 (some .int) κ w (0, 0, 5) 42 [(4, iv y4), (5, iv y5), (0, rn w l0), (3, iv l3)] [] M0 (zw2 (fb_X10_ends_42 w.1 l0 l3 M0) zfu y4 y5) E := by
  have hT := hw.1
  refine zv_loop2 (fun y4 y5 => [(4, iv y4), (5, iv y5), (0, rn w l0), (3, iv l3)]) (fun y4 y5 => M0) (fun y4 y5 => ?_) y4 y5
  unfold fb_X10_ends_42
  refine zv_iload dX10_ends_42 1 rfl ?_
  refine zv_sipush (z := 256) dX10_ends_44 (by decide) ?_
  refine zv_icmp_ge (tgt := 73) dX10_ends_47 (by decide) ?_ ?_
  · exact zv_sub (L' := [(4, iv y4)]) [0] rfl (zv_exit (fun h => hX _ h))
  refine zv_rload_n dX10_ends_50 2 rfl ?_
  refine zg_RX10_38 dX10_ends_51 g0 ?_
  refine zg_RX10_273 dX10_ends_54 (zta_10_4 hT g0) ?_
  refine zv_iload dX10_ends_57 1 rfl ?_
  refine zv_iald dX10_ends_59 (zta_2_7 hT (zta_10_4 hT g0)) (ztl_2_7 hT (zta_10_4 hT g0)) (by decide) ?_
  refine zv_iload_n dX10_ends_60 3 rfl ?_
  refine zv_icmp_ne (tgt := 67) dX10_ends_61 (by decide) ?_ ?_
  · refine zv_iinc dX10_ends_67 1 rfl (fun x7 => [(5, iv x7), (4, iv y4), (0, rn w l0), (3, iv l3)]) (by decide) (fun _ => rfl) (fun x7 => ?_)
    refine zv_goto (tgt := 42) dX10_ends_70 (by decide) ?_
    exact zv_sub (L' := [(4, iv y4), (5, iv x7), (0, rn w l0), (3, iv l3)]) [1, 0, 2, 3] rfl (zv_exit (fun h => h))
  refine zv_iinc dX10_ends_64 0 rfl (fun x8 => [(4, iv x8), (5, iv y5), (0, rn w l0), (3, iv l3)]) (by decide) (fun _ => rfl) (fun x8 => ?_)
  refine zv_iinc dX10_ends_67 1 rfl (fun x9 => [(5, iv x9), (4, iv x8), (0, rn w l0), (3, iv l3)]) (by decide) (fun _ => rfl) (fun x9 => ?_)
  refine zv_goto (tgt := 42) dX10_ends_70 (by decide) ?_
  exact zv_sub (L' := [(4, iv x8), (5, iv x9), (0, rn w l0), (3, iv l3)]) [1, 0, 2, 3] rfl (zv_exit (fun h => h))
theorem c_X10_ends (l : Launch) {w : zW} (hw : zWk w)  (p0 : Nat) (p1 : Int) (p2 : Int) (M0 : zM) (hp0 : ztag w.1 p0 = 11) : zCn l yX10_ends cX10_ends 6 (some .int) (5) 1 w [rn w p0, iv p1, iv p2] M0 (f_X10_ends w.1 p0 p1 p2 M0) := by
  have hT := hw.1
  refine zCn_of (own := RX10) (by decide) rfl hw (Nat.le_of_ble_eq_true rfl) [(0, rn w p0), (1, iv p1), (2, iv p2)] rfl ?_
  intro κ hl
  subst hl
  unfold f_X10_ends
  refine zv_iload_n dX10_ends_0 1 rfl ?_
  refine zv_pc (zv_callSi [iv p1] (c_X10_isCell κ.2.1 hw p1 M0 ) zmd_X10_isCell zwT_X10_isCell zwM_RX10_92 rfl (by decide) rfl (Nat.le_of_ble_eq_true rfl) dX10_ends_1 (fun mh2 v1 h2 => ?_))
  obtain rfl := zpuE h2
  refine zv_if_eq (tgt := 14) dX10_ends_4 (by decide) ?_ ?_
  · refine zv_iconst (z := (-1)) dX10_ends_14 ?_
    exact zv_ret (fun h => h) (zv_iret dX10_ends_15)
  refine zv_iload_n dX10_ends_7 2 rfl ?_
  refine zv_pc (zv_callSi [iv p2] (c_X10_isPart κ.2.1 hw p2 M0 ) zmd_X10_isPart zwT_X10_isPart zwM_RX10_200 rfl (by decide) rfl (Nat.le_of_ble_eq_true rfl) dX10_ends_8 (fun mh4 v3 h4 => ?_))
  obtain rfl := zpuE h4
  refine zv_if_ne (tgt := 16) dX10_ends_11 (by decide) ?_ ?_
  · refine zv_rload_n dX10_ends_16 0 rfl ?_
    refine zv_vc (zv_callVv [] (c_X10_settle κ.2.1 hw p0 M0 hp0) zmd_X10_settle zwI_X10_settle zwS_X10_settle zwM_RX10_213 zcd_10 hp0 rfl (by decide) rfl (Nat.le_of_ble_eq_true rfl) dX10_ends_17 (fun M5 _ _ => ?_))
    refine zv_rload_n dX10_ends_20 0 rfl ?_
    refine zg_RX10_38 dX10_ends_21 hp0 ?_
    refine zg_RX10_273 dX10_ends_24 (zta_10_4 hT hp0) ?_
    refine zv_iload_n dX10_ends_27 1 rfl ?_
    refine zv_iald dX10_ends_28 (zta_2_7 hT (zta_10_4 hT hp0)) (ztl_2_7 hT (zta_10_4 hT hp0)) (by decide) ?_
    refine zv_istore_n (i := 3) (by rfl) dX10_ends_29 (fun x6 => [(3, iv x6), (0, rn w p0), (1, iv p1), (2, iv p2)]) (by decide) (fun _ => rfl) (fun x6 => ?_)
    refine zv_iload_n dX10_ends_30 3 rfl ?_
    refine zv_if_ne (tgt := 36) dX10_ends_31 (by decide) ?_ ?_
    · refine zv_iconst (z := 0) dX10_ends_36 ?_
      refine zv_istore_p (L' := [(4, iv 0), (3, iv x6), (0, rn w p0), (1, iv p1), (2, iv p2)]) dX10_ends_37 (by decide) rfl ?_
      refine zv_iconst (z := 0) dX10_ends_39 ?_
      refine zv_istore_p (L' := [(5, iv 0), (4, iv 0), (3, iv x6), (0, rn w p0), (1, iv p1), (2, iv p2)]) dX10_ends_40 (by decide) rfl ?_
      refine zv_join1 73 (fun x10 => [(4, iv x10)]) (fun x10 => []) (fun x10 => M5) (zv_sub (L' := [(4, iv 0), (5, iv 0), (0, rn w p0), (3, iv x6)]) [1, 0, 3, 2] rfl (vl_X10_ends_42 hw p0 x6 hp0 M5 _ (fun _ h => h) 0 0)) (fun x10 => ?_)
      refine zv_iload dX10_ends_73 0 rfl ?_
      exact zv_ret (fun h => h) (zv_iret dX10_ends_75)
    refine zv_iload_n dX10_ends_34 0 rfl ?_
    exact zv_ret (fun h => h) (zv_iret dX10_ends_35)
  refine zv_iconst (z := (-1)) dX10_ends_14 ?_
  exact zv_ret (fun h => h) (zv_iret dX10_ends_15)
def f_X10_fault (k : zK)  (p0 : Nat) (M0 : zM) : Option Int :=
  some (M0 p0 12)
theorem c_X10_fault (l : Launch) {w : zW} (hw : zWk w)  (p0 : Nat) (M0 : zM) (hp0 : ztag w.1 p0 = 11) : zCn l yX10_fault cX10_fault 1 (some .int) (0) 1 w [rn w p0] M0 ((f_X10_fault w.1 p0 M0).map fun v => (M0, v)) := by
  have hT := hw.1
  refine zCn_ofP (own := RX10) (by decide) rfl hw (Nat.le_of_ble_eq_true rfl) [(0, rn w p0)] rfl ?_
  intro κ hl
  subst hl
  unfold f_X10_fault
  refine zv_rload_n dX10_fault_0 0 rfl ?_
  refine zg_RX10_81 dX10_fault_1 hp0 ?_
  exact zv_ret (fun h => h) (zv_iret dX10_fault_4)
def fb_X6_put_3 (k : zK)  (l0 : Nat) (l1 : Int) (y2 : Int) (M0 : zM) : Option ((Int × zM) ⊕ (zM)) :=
  zbr y2 0 (y2 < 0) (some (.inr M0)) (zbr (M0 l0 1) 700 (700 ≤ M0 l0 1) (zlt (y2 + (-8)) (fun x1 => some (.inl (x1, M0)))) (zgd (0 ≤ M0 l0 1 ∧ M0 l0 1 < 700) (zlt (zst M0 (zfr k l0 0) (M0 l0 1).toNat (zo_and (zo_ushr l1 y2) 255)) (fun M2 => zlt (zst M2 l0 1 ((M2 l0 1) + 1)) (fun M3 => zlt (y2 + (-8)) (fun x4 => some (.inl (x4, M3))))))))
def f_X6_put (k : zK)  (p0 : Nat) (p1 : Int) (M0 : zM) : Option zM :=
  zb1 (zw2 (fb_X6_put_3 k p0 p1) zfu 24 M0) (fun M5 => some M5)
theorem vl_X6_put_3 {κ : zC} {w : zW} (hw : zWk w)  (l0 : Nat) (l1 : Int) (g0 : ztag w.1 l0 = 7)  (E : (zM) → Prop) (hX : ∀  (M1 : zM), E M1 → zB cX6_put RX6 3 none κ w (0, 0, 0) 49 [] [] M1)  (y2 : Int) (M0 : zM) :
    zV cX6_put RX6 3 none κ w (0, 0, 0) 3 [(2, iv y2), (0, rn w l0), (1, iv l1)] [] M0 (zw2 (fb_X6_put_3 w.1 l0 l1) zfu y2 M0) E := by
  have hT := hw.1
  refine zv_loop2 (fun y2 M0 => [(2, iv y2), (0, rn w l0), (1, iv l1)]) (fun y2 M0 => M0) (fun y2 M0 => ?_) y2 M0
  unfold fb_X6_put_3
  refine zv_iload_n dX6_put_3 0 rfl ?_
  refine zv_if_lt (tgt := 49) dX6_put_4 (by decide) ?_ ?_
  · exact zv_sub (L' := []) [] rfl (zv_exit (fun h => hX _ h))
  refine zv_rload_n dX6_put_7 1 rfl ?_
  refine zg_RX6_15 dX6_put_8 g0 ?_
  refine zv_sipush (z := 700) dX6_put_11 (by decide) ?_
  refine zv_icmp_ge (tgt := 43) dX6_put_14 (by decide) ?_ ?_
  · refine zv_iinc dX6_put_43 0 rfl (fun x1 => [(2, iv x1), (0, rn w l0), (1, iv l1)]) (by decide) (fun _ => rfl) (fun x1 => ?_)
    refine zv_goto (tgt := 3) dX6_put_46 (by decide) ?_
    exact zv_sub (L' := [(2, iv x1), (0, rn w l0), (1, iv l1)]) [0, 1, 2] rfl (zv_exit (fun h => h))
  refine zv_rload_n dX6_put_17 1 rfl ?_
  refine zg_RX6_9 dX6_put_18 g0 ?_
  refine zv_rload_n dX6_put_21 1 rfl ?_
  refine zg_RX6_15 dX6_put_22 g0 ?_
  refine zv_iload_n dX6_put_25 2 rfl ?_
  refine zv_iload_n dX6_put_26 0 rfl ?_
  refine zv_iushr dX6_put_27 ?_
  refine zv_sipush (z := 255) dX6_put_28 (by decide) ?_
  refine zv_iand dX6_put_31 ?_
  refine zv_iast dX6_put_32 (zta_6_0 hT g0) (ztl_6_0 hT g0) (by decide) (fun M2 => ?_)
  refine zv_rload_n dX6_put_33 1 rfl ?_
  refine zv_dup dX6_put_34 rfl ?_
  refine zg_RX6_15 dX6_put_35 g0 ?_
  refine zv_iconst (z := 1) dX6_put_38 ?_
  refine zv_iadd dX6_put_39 ?_
  refine zp_RX6_15 dX6_put_40 g0 (fun M3 => ?_)
  refine zv_iinc dX6_put_43 0 rfl (fun x4 => [(2, iv x4), (0, rn w l0), (1, iv l1)]) (by decide) (fun _ => rfl) (fun x4 => ?_)
  refine zv_goto (tgt := 3) dX6_put_46 (by decide) ?_
  exact zv_sub (L' := [(2, iv x4), (0, rn w l0), (1, iv l1)]) [0, 1, 2] rfl (zv_exit (fun h => h))
theorem c_X6_put (l : Launch) {w : zW} (hw : zWk w)  (p0 : Nat) (p1 : Int) (M0 : zM) (hp0 : ztag w.1 p0 = 7) : zCn l yX6_put cX6_put 3 none (0) 0 w [rn w p0, iv p1] M0 ((f_X6_put w.1 p0 p1 M0).map fun m => (m, (0 : Int))) := by
  have hT := hw.1
  refine zCn_ofV (own := RX6) (by decide) rfl hw (Nat.le_of_ble_eq_true rfl) [(0, rn w p0), (1, iv p1)] rfl ?_
  intro κ hl
  subst hl
  unfold f_X6_put
  refine zv_bipush (z := 24) dX6_put_0 (by decide) ?_
  refine zv_istore_np (L' := [(2, iv 24), (0, rn w p0), (1, iv p1)]) (by rfl) dX6_put_2 (by decide) rfl ?_
  refine zv_join1 49 (fun M5 => []) (fun M5 => []) (fun M5 => M5) (zv_sub (L' := [(2, iv 24), (0, rn w p0), (1, iv p1)]) [0, 1, 2] rfl (vl_X6_put_3 hw p0 p1 hp0 _ (fun _ h => h) 24 M0)) (fun M5 => ?_)
  exact zv_ret (fun h => h) (zv_vret (v := 0) dX6_put_49)
def f_X10_feed (k : zK)  (p0 : Nat) (p1 : Int) (p2 : Int) (p3 : Int) (p4 : Int) (p5 : Int) (M0 : zM) : Option (zM × Int) :=
  zbr ((M0 (zfr k p0 0) 1) + 20) 700 ((M0 (zfr k p0 0) 1) + 20 ≤ 700) (zb1 (f_X6_put k (zfr k p0 0) p1 M0) (fun M1 => zb1 (f_X6_put k (zfr k p0 0) p2 M1) (fun M2 => zb1 (f_X6_put k (zfr k p0 0) p3 M2) (fun M3 => zb1 (f_X6_put k (zfr k p0 0) p4 M3) (fun M4 => zb1 (f_X6_put k (zfr k p0 0) p5 M4) (fun M5 => some (M5, M5 (zfr k p0 0) 1))))))) (some (M0, (-1)))
theorem c_X10_feed (l : Launch) {w : zW} (hw : zWk w)  (p0 : Nat) (p1 : Int) (p2 : Int) (p3 : Int) (p4 : Int) (p5 : Int) (M0 : zM) (hp0 : ztag w.1 p0 = 11) : zCn l yX10_feed cX10_feed 6 (some .int) (1) 1 w [rn w p0, iv p1, iv p2, iv p3, iv p4, iv p5] M0 (f_X10_feed w.1 p0 p1 p2 p3 p4 p5 M0) := by
  have hT := hw.1
  refine zCn_of (own := RX10) (by decide) rfl hw (Nat.le_of_ble_eq_true rfl) [(0, rn w p0), (1, iv p1), (2, iv p2), (3, iv p3), (4, iv p4), (5, iv p5)] rfl ?_
  intro κ hl
  subst hl
  unfold f_X10_feed
  refine zv_rload_n dX10_feed_0 0 rfl ?_
  refine zg_RX10_10 dX10_feed_1 hp0 ?_
  refine zg_RX10_112 dX10_feed_4 (zta_10_0 hT hp0) ?_
  refine zv_bipush (z := 20) dX10_feed_7 (by decide) ?_
  refine zv_iadd dX10_feed_9 ?_
  refine zv_sipush (z := 700) dX10_feed_10 (by decide) ?_
  refine zv_icmp_le (tgt := 18) dX10_feed_13 (by decide) ?_ ?_
  · refine zv_rload_n dX10_feed_18 0 rfl ?_
    refine zg_RX10_10 dX10_feed_19 hp0 ?_
    refine zv_iload_n dX10_feed_22 1 rfl ?_
    refine zv_vc (zv_callVv [iv p1] (c_X6_put κ.2.1 hw (zfr w.1 p0 0) p1 M0 (zta_10_0 hT hp0)) zmd_X6_put zwI_X6_put zwS_X6_put zwM_RX10_115 zcd_6 (zta_10_0 hT hp0) rfl (by decide) rfl (Nat.le_of_ble_eq_true rfl) dX10_feed_23 (fun M1 _ _ => ?_))
    refine zv_rload_n dX10_feed_26 0 rfl ?_
    refine zg_RX10_10 dX10_feed_27 hp0 ?_
    refine zv_iload_n dX10_feed_30 2 rfl ?_
    refine zv_vc (zv_callVv [iv p2] (c_X6_put κ.2.1 hw (zfr w.1 p0 0) p2 M1 (zta_10_0 hT hp0)) zmd_X6_put zwI_X6_put zwS_X6_put zwM_RX10_115 zcd_6 (zta_10_0 hT hp0) rfl (by decide) rfl (Nat.le_of_ble_eq_true rfl) dX10_feed_31 (fun M2 _ _ => ?_))
    refine zv_rload_n dX10_feed_34 0 rfl ?_
    refine zg_RX10_10 dX10_feed_35 hp0 ?_
    refine zv_iload_n dX10_feed_38 3 rfl ?_
    refine zv_vc (zv_callVv [iv p3] (c_X6_put κ.2.1 hw (zfr w.1 p0 0) p3 M2 (zta_10_0 hT hp0)) zmd_X6_put zwI_X6_put zwS_X6_put zwM_RX10_115 zcd_6 (zta_10_0 hT hp0) rfl (by decide) rfl (Nat.le_of_ble_eq_true rfl) dX10_feed_39 (fun M3 _ _ => ?_))
    refine zv_rload_n dX10_feed_42 0 rfl ?_
    refine zg_RX10_10 dX10_feed_43 hp0 ?_
    refine zv_iload dX10_feed_46 4 rfl ?_
    refine zv_vc (zv_callVv [iv p4] (c_X6_put κ.2.1 hw (zfr w.1 p0 0) p4 M3 (zta_10_0 hT hp0)) zmd_X6_put zwI_X6_put zwS_X6_put zwM_RX10_115 zcd_6 (zta_10_0 hT hp0) rfl (by decide) rfl (Nat.le_of_ble_eq_true rfl) dX10_feed_48 (fun M4 _ _ => ?_))
    refine zv_rload_n dX10_feed_51 0 rfl ?_
    refine zg_RX10_10 dX10_feed_52 hp0 ?_
    refine zv_iload dX10_feed_55 5 rfl ?_
    refine zv_vc (zv_callVv [iv p5] (c_X6_put κ.2.1 hw (zfr w.1 p0 0) p5 M4 (zta_10_0 hT hp0)) zmd_X6_put zwI_X6_put zwS_X6_put zwM_RX10_115 zcd_6 (zta_10_0 hT hp0) rfl (by decide) rfl (Nat.le_of_ble_eq_true rfl) dX10_feed_57 (fun M5 _ _ => ?_))
    refine zv_rload_n dX10_feed_60 0 rfl ?_
    refine zg_RX10_10 dX10_feed_61 hp0 ?_
    refine zg_RX10_112 dX10_feed_64 (zta_10_0 hT hp0) ?_
    exact zv_ret (fun h => h) (zv_iret dX10_feed_67)
  refine zv_iconst (z := (-1)) dX10_feed_16 ?_
  exact zv_ret (fun h => h) (zv_iret dX10_feed_17)
def f_X10_find (k : zK)  (p0 : Nat) (p1 : Int) (p2 : Int) (p3 : Int) (p4 : Int) (M0 : zM) : Option (zM × Int) :=
  zb1 (f_X10_isCell k p1 M0) (fun v1 => zsp1 (zbr v1 0 (v1 = 0) (some (.inl M0)) (zbr p2 0 (p2 < 0) (some (.inl M0)) (zbr p2 3 (3 ≤ p2) (some (.inl M0)) (zb1 (f_X10_areAges k p3 p4 M0) (fun v3 => zbr v3 0 (¬ v3 = 0) (zbr (M0 (zfr k p0 1) 17) 60 (M0 (zfr k p0 1) 17 < 60) (zlt (M0 (zfr k p0 1) 17) (fun x5 => zgd (0 ≤ x5 ∧ x5 < 60) (zlt (zst M0 (zfr k (zfr k p0 1) 6) x5.toNat (p1)) (fun M6 => zgd (0 ≤ x5 ∧ x5 < 60) (zlt (zst M6 (zfr k (zfr k p0 1) 7) x5.toNat (p2)) (fun M7 => zgd (0 ≤ x5 ∧ x5 < 60) (zlt (zst M7 (zfr k (zfr k p0 1) 8) x5.toNat (p3)) (fun M8 => zgd (0 ≤ x5 ∧ x5 < 60) (zlt (zst M8 (zfr k (zfr k p0 1) 9) x5.toNat (p4)) (fun M9 => zlt (zst M9 (zfr k p0 1) 17 ((M9 (zfr k p0 1) 17) + 1)) (fun M10 => some (.inr (M10, x5))))))))))))) (zbd (f_X10_refuse k p0 1 M0) (fun M12 v11 => some (.inr (M12, v11))))) (some (.inl M0))))))) (fun r => some r) (fun M13 => zbd (f_X10_refuse k p0 0 M13) (fun M15 v14 => some (M15, v14))))
set_option maxRecDepth 20000 in
theorem c_X10_find (l : Launch) {w : zW} (hw : zWk w)  (p0 : Nat) (p1 : Int) (p2 : Int) (p3 : Int) (p4 : Int) (M0 : zM) (hp0 : ztag w.1 p0 = 11) : zCn l yX10_find cX10_find 6 (some .int) (2) 1 w [rn w p0, iv p1, iv p2, iv p3, iv p4] M0 (f_X10_find w.1 p0 p1 p2 p3 p4 M0) := by
  have hT := hw.1
  refine zCn_of (own := RX10) (by decide) rfl hw (Nat.le_of_ble_eq_true rfl) [(0, rn w p0), (1, iv p1), (2, iv p2), (3, iv p3), (4, iv p4)] rfl ?_
  intro κ hl
  subst hl
  unfold f_X10_find
  refine zv_iload_n dX10_find_0 1 rfl ?_
  refine zv_pc (zv_callSi [iv p1] (c_X10_isCell κ.2.1 hw p1 M0 ) zmd_X10_isCell zwT_X10_isCell zwM_RX10_92 rfl (by decide) rfl (Nat.le_of_ble_eq_true rfl) dX10_find_1 (fun mh2 v1 h2 => ?_))
  obtain rfl := zpuE h2
  refine zv_joinS1 (fun r => r) 25 (fun M13 => [(0, rn w p0)]) (fun M13 => []) (fun M13 => M13) ?_ (fun M13 => ?_)
  · refine zv_if_eq (tgt := 25) dX10_find_4 (by decide) ?_ ?_
    · exact zv_sub (L' := [(0, rn w p0)]) [0] rfl (zv_exit (fun h => h))
    refine zv_iload_n dX10_find_7 2 rfl ?_
    refine zv_if_lt (tgt := 25) dX10_find_8 (by decide) ?_ ?_
    · exact zv_sub (L' := [(0, rn w p0)]) [0] rfl (zv_exit (fun h => h))
    refine zv_iload_n dX10_find_11 2 rfl ?_
    refine zv_iconst (z := 3) dX10_find_12 ?_
    refine zv_icmp_ge (tgt := 25) dX10_find_13 (by decide) ?_ ?_
    · exact zv_sub (L' := [(0, rn w p0)]) [0] rfl (zv_exit (fun h => h))
    refine zv_iload_n dX10_find_16 3 rfl ?_
    refine zv_iload dX10_find_17 4 rfl ?_
    refine zv_pc (zv_callSi [iv p3, iv p4] (c_X10_areAges κ.2.1 hw p3 p4 M0 ) zmd_X10_areAges zwT_X10_areAges zwM_RX10_144 rfl (by decide) rfl (Nat.le_of_ble_eq_true rfl) dX10_find_19 (fun mh4 v3 h4 => ?_))
    obtain rfl := zpuE h4
    refine zv_if_ne (tgt := 31) dX10_find_22 (by decide) ?_ ?_
    · refine zv_rload_n dX10_find_31 0 rfl ?_
      refine zg_RX10_19 dX10_find_32 hp0 ?_
      refine zg_RX10_148 dX10_find_35 (zta_10_1 hT hp0) ?_
      refine zv_bipush (z := 60) dX10_find_38 (by decide) ?_
      refine zv_icmp_lt (tgt := 49) dX10_find_40 (by decide) ?_ ?_
      · refine zv_rload_n dX10_find_49 0 rfl ?_
        refine zg_RX10_19 dX10_find_50 hp0 ?_
        refine zg_RX10_148 dX10_find_53 (zta_10_1 hT hp0) ?_
        refine zv_istore dX10_find_56 (fun x5 => [(5, iv x5), (0, rn w p0), (1, iv p1), (2, iv p2), (3, iv p3), (4, iv p4)]) (by decide) (fun _ => rfl) (fun x5 => ?_)
        refine zv_rload_n dX10_find_58 1 rfl ?_
        refine zg_RX10_19 dX10_find_59 hp0 ?_
        refine zg_RX10_151 dX10_find_62 (zta_10_1 hT hp0) ?_
        refine zv_iload dX10_find_65 0 rfl ?_
        refine zv_iload_n dX10_find_67 2 rfl ?_
        refine zv_iast dX10_find_68 (zta_7_6 hT (zta_10_1 hT hp0)) (ztl_7_6 hT (zta_10_1 hT hp0)) (by decide) (fun M6 => ?_)
        refine zv_rload_n dX10_find_69 1 rfl ?_
        refine zg_RX10_19 dX10_find_70 hp0 ?_
        refine zg_RX10_154 dX10_find_73 (zta_10_1 hT hp0) ?_
        refine zv_iload dX10_find_76 0 rfl ?_
        refine zv_iload_n dX10_find_78 3 rfl ?_
        refine zv_iast dX10_find_79 (zta_7_7 hT (zta_10_1 hT hp0)) (ztl_7_7 hT (zta_10_1 hT hp0)) (by decide) (fun M7 => ?_)
        refine zv_rload_n dX10_find_80 1 rfl ?_
        refine zg_RX10_19 dX10_find_81 hp0 ?_
        refine zg_RX10_157 dX10_find_84 (zta_10_1 hT hp0) ?_
        refine zv_iload dX10_find_87 0 rfl ?_
        refine zv_iload_n dX10_find_89 4 rfl ?_
        refine zv_iast dX10_find_90 (zta_7_8 hT (zta_10_1 hT hp0)) (ztl_7_8 hT (zta_10_1 hT hp0)) (by decide) (fun M8 => ?_)
        refine zv_rload_n dX10_find_91 1 rfl ?_
        refine zg_RX10_19 dX10_find_92 hp0 ?_
        refine zg_RX10_160 dX10_find_95 (zta_10_1 hT hp0) ?_
        refine zv_iload dX10_find_98 0 rfl ?_
        refine zv_iload dX10_find_100 5 rfl ?_
        refine zv_iast dX10_find_102 (zta_7_9 hT (zta_10_1 hT hp0)) (ztl_7_9 hT (zta_10_1 hT hp0)) (by decide) (fun M9 => ?_)
        refine zv_rload_n dX10_find_103 1 rfl ?_
        refine zg_RX10_19 dX10_find_104 hp0 ?_
        refine zv_dup dX10_find_107 rfl ?_
        refine zg_RX10_148 dX10_find_108 (zta_10_1 hT hp0) ?_
        refine zv_iconst (z := 1) dX10_find_111 ?_
        refine zv_iadd dX10_find_112 ?_
        refine zp_RX10_148 dX10_find_113 (zta_10_1 hT hp0) (fun M10 => ?_)
        refine zv_iload dX10_find_116 0 rfl ?_
        exact zv_ret (fun h => h) (zv_iret dX10_find_118)
      refine zv_rload_n dX10_find_43 0 rfl ?_
      refine zv_iconst (z := 1) dX10_find_44 ?_
      refine (zv_callVi [iv 1] (c_X10_refuse κ.2.1 hw p0 1 M0 hp0) zmd_X10_refuse zwI_X10_refuse zwS_X10_refuse zwM_RX10_99 zcd_10 hp0 rfl (by decide) rfl (Nat.le_of_ble_eq_true rfl) dX10_find_45 (fun M12 v11 _ => ?_))
      exact zv_ret (fun h => h) (zv_iret dX10_find_48)
    exact zv_sub (L' := [(0, rn w p0)]) [0] rfl (zv_exit (fun h => h))
  refine zv_rload_n dX10_find_25 0 rfl ?_
  refine zv_iconst (z := 0) dX10_find_26 ?_
  refine (zv_callVi [iv 0] (c_X10_refuse κ.2.1 hw p0 0 M13 hp0) zmd_X10_refuse zwI_X10_refuse zwS_X10_refuse zwM_RX10_99 zcd_10 hp0 rfl (by decide) rfl (Nat.le_of_ble_eq_true rfl) dX10_find_27 (fun M15 v14 _ => ?_))
  exact zv_ret (fun h => h) (zv_iret dX10_find_30)
def fb_X10_letterFits_40 (k : zK)  (l0 : Nat) (l1 : Int) (l2 : Int) (l3 : Int) (M0 : zM) (y4 : Int) : Option ((Int) ⊕ ((Unit) ⊕ Int)) :=
  zgd (0 ≤ l1 ∧ l1 < 40) (zbr y4 (M0 (zfr k (zfr k l0 1) 14) l1.toNat) (M0 (zfr k (zfr k l0 1) 14) l1.toNat < y4) (some (.inr (.inl ()))) (zb1 (zbr l3 0 (l3 = 0) (zgd (ztag k (M0 l0 10).toNat = 4 ∧ (M0 l0 10).toNat ≠ 0) (zlt (M0 l0 10).toNat (fun q4 => zgd (0 ≤ y4 ∧ y4 < 100) (zbr (M0 (zfr k q4 9) y4.toNat) l2 (M0 (zfr k q4 9) y4.toNat < l2) (some (0)) (some (1)))))) (zgd (ztag k (M0 l0 10).toNat = 4 ∧ (M0 l0 10).toNat ≠ 0) (zlt (M0 l0 10).toNat (fun q6 => zgd (0 ≤ y4 ∧ y4 < 100) (zbr (M0 (zfr k q6 8) y4.toNat) l2 (l2 ≤ M0 (zfr k q6 8) y4.toNat) (some (0)) (some (1))))))) (fun x8 => zbr x8 0 (x8 = 0) (zlt (y4 + 1) (fun x9 => some (.inl (x9)))) (some (.inr (.inr 1))))))
def f_X10_letterFits (k : zK)  (p0 : Nat) (p1 : Int) (M0 : zM) : Option Int :=
  zgd (0 ≤ p1 ∧ p1 < 40) (zlt (M0 (zfr k (zfr k p0 1) 12) p1.toNat) (fun x1 => zgd (0 ≤ p1 ∧ p1 < 40) (zb1 (zbr (M0 (zfr k (zfr k p0 1) 11) p1.toNat) 1 (¬ M0 (zfr k (zfr k p0 1) 11) p1.toNat = 1) (some (0)) (some (1))) (fun x2 => zgd (0 ≤ p1 ∧ p1 < 40) (zlt (M0 (zfr k (zfr k p0 1) 13) p1.toNat) (fun x3 => zsp0 (zw1 (fb_X10_letterFits_40 k p0 p1 x1 x2 M0) zfu x3) (fun r => some ((r))) (some 0)))))))
theorem vl_X10_letterFits_40 {κ : zC} {w : zW} (hw : zWk w)  (l0 : Nat) (l1 : Int) (l2 : Int) (l3 : Int) (g0 : ztag w.1 l0 = 11) (M0 : zM) (E : ((Unit) ⊕ Int) → Prop) (hX : E (.inl ()) → zB cX10_letterFits RX10 6 (some .boolean) κ w (0, 0, 0) 114 [] [] M0) (hR : ∀ r, E (.inr r) → zRt κ w (0, 0, 0) 1 (M0, r)) (y4 : Int) :
    zV cX10_letterFits RX10 6 (some .boolean) κ w (0, 0, 0) 40 [(4, iv y4), (0, rn w l0), (1, iv l1), (2, iv l2), (3, iv l3)] [] M0 (zw1 (fb_X10_letterFits_40 w.1 l0 l1 l2 l3 M0) zfu y4) E := by
  have hT := hw.1
  refine zv_loop1 (fun y4 => [(4, iv y4), (0, rn w l0), (1, iv l1), (2, iv l2), (3, iv l3)]) (fun y4 => M0) (fun y4 => ?_) y4
  unfold fb_X10_letterFits_40
  refine zv_iload dX10_letterFits_40 0 rfl ?_
  refine zv_rload_n dX10_letterFits_42 1 rfl ?_
  refine zg_RX10_19 dX10_letterFits_43 g0 ?_
  refine zg_RX10_190 dX10_letterFits_46 (zta_10_1 hT g0) ?_
  refine zv_iload_n dX10_letterFits_49 2 rfl ?_
  refine zv_iald dX10_letterFits_50 (zta_7_14 hT (zta_10_1 hT g0)) (ztl_7_14 hT (zta_10_1 hT g0)) (by decide) ?_
  refine zv_icmp_gt (tgt := 114) dX10_letterFits_51 (by decide) ?_ ?_
  · exact zv_sub (L' := []) [] rfl (zv_exit (fun h => hX  h))
  refine zv_iload_n dX10_letterFits_54 4 rfl ?_
  refine zv_join1 99 (fun x8 => [(4, iv y4), (0, rn w l0), (1, iv l1), (2, iv l2), (3, iv l3)]) (fun x8 => [iv x8]) (fun x8 => M0) ?_ (fun x8 => ?_)
  · refine zv_if_eq (tgt := 80) dX10_letterFits_55 (by decide) ?_ ?_
    · refine zv_rload_n dX10_letterFits_80 1 rfl ?_
      refine zg_RX10_74 dX10_letterFits_81 g0 (fun q4 h5 => ?_)
      refine zg_RX10_206 dX10_letterFits_84 h5 ?_
      refine zv_iload dX10_letterFits_87 0 rfl ?_
      refine zv_iald dX10_letterFits_89 (zta_3_9 hT h5) (ztl_3_9 hT h5) (by decide) ?_
      refine zv_iload_n dX10_letterFits_90 3 rfl ?_
      refine zv_icmp_lt (tgt := 98) dX10_letterFits_91 (by decide) ?_ ?_
      · refine zv_iconst (z := 0) dX10_letterFits_98 ?_
        exact zv_sub (L' := [(4, iv y4), (0, rn w l0), (1, iv l1), (2, iv l2), (3, iv l3)]) [0, 1, 2, 3, 4] rfl (zv_exit (fun h => h))
      refine zv_iconst (z := 1) dX10_letterFits_94 ?_
      refine zv_goto (tgt := 99) dX10_letterFits_95 (by decide) ?_
      exact zv_sub (L' := [(4, iv y4), (0, rn w l0), (1, iv l1), (2, iv l2), (3, iv l3)]) [0, 1, 2, 3, 4] rfl (zv_exit (fun h => h))
    refine zv_rload_n dX10_letterFits_58 1 rfl ?_
    refine zg_RX10_74 dX10_letterFits_59 g0 (fun q6 h7 => ?_)
    refine zg_RX10_203 dX10_letterFits_62 h7 ?_
    refine zv_iload dX10_letterFits_65 0 rfl ?_
    refine zv_iald dX10_letterFits_67 (zta_3_8 hT h7) (ztl_3_8 hT h7) (by decide) ?_
    refine zv_iload_n dX10_letterFits_68 3 rfl ?_
    refine zv_icmp_ge (tgt := 76) dX10_letterFits_69 (by decide) ?_ ?_
    · refine zv_iconst (z := 0) dX10_letterFits_76 ?_
      refine zv_goto (tgt := 99) dX10_letterFits_77 (by decide) ?_
      exact zv_sub (L' := [(4, iv y4), (0, rn w l0), (1, iv l1), (2, iv l2), (3, iv l3)]) [0, 1, 2, 3, 4] rfl (zv_exit (fun h => h))
    refine zv_iconst (z := 1) dX10_letterFits_72 ?_
    refine zv_goto (tgt := 99) dX10_letterFits_73 (by decide) ?_
    exact zv_sub (L' := [(4, iv y4), (0, rn w l0), (1, iv l1), (2, iv l2), (3, iv l3)]) [0, 1, 2, 3, 4] rfl (zv_exit (fun h => h))
  refine zv_istore_p (L' := [(5, iv x8), (4, iv y4), (0, rn w l0), (1, iv l1), (2, iv l2), (3, iv l3)]) dX10_letterFits_99 (by decide) rfl ?_
  refine zv_iload dX10_letterFits_101 0 rfl ?_
  refine zv_if_eq (tgt := 108) dX10_letterFits_103 (by decide) ?_ ?_
  · refine zv_iinc dX10_letterFits_108 1 rfl (fun x9 => [(4, iv x9), (5, iv x8), (0, rn w l0), (1, iv l1), (2, iv l2), (3, iv l3)]) (by decide) (fun _ => rfl) (fun x9 => ?_)
    refine zv_goto (tgt := 40) dX10_letterFits_111 (by decide) ?_
    exact zv_sub (L' := [(4, iv x9), (0, rn w l0), (1, iv l1), (2, iv l2), (3, iv l3)]) [0, 2, 3, 4, 5] rfl (zv_exit (fun h => h))
  refine zv_iconst (z := 1) dX10_letterFits_106 ?_
  exact zv_ret (fun h => hR _ h) (zv_zrB (by decide) dX10_letterFits_107)
theorem c_X10_letterFits (l : Launch) {w : zW} (hw : zWk w)  (p0 : Nat) (p1 : Int) (M0 : zM) (hp0 : ztag w.1 p0 = 11) : zCn l yX10_letterFits cX10_letterFits 6 (some .boolean) (0) 1 w [rn w p0, iv p1] M0 ((f_X10_letterFits w.1 p0 p1 M0).map fun v => (M0, v)) := by
  have hT := hw.1
  refine zCn_ofP (own := RX10) (by decide) rfl hw (Nat.le_of_ble_eq_true rfl) [(0, rn w p0), (1, iv p1)] rfl ?_
  intro κ hl
  subst hl
  unfold f_X10_letterFits
  refine zv_rload_n dX10_letterFits_0 0 rfl ?_
  refine zg_RX10_19 dX10_letterFits_1 hp0 ?_
  refine zg_RX10_184 dX10_letterFits_4 (zta_10_1 hT hp0) ?_
  refine zv_iload_n dX10_letterFits_7 1 rfl ?_
  refine zv_iald dX10_letterFits_8 (zta_7_12 hT (zta_10_1 hT hp0)) (ztl_7_12 hT (zta_10_1 hT hp0)) (by decide) ?_
  refine zv_istore_n (i := 2) (by rfl) dX10_letterFits_9 (fun x1 => [(2, iv x1), (0, rn w p0), (1, iv p1)]) (by decide) (fun _ => rfl) (fun x1 => ?_)
  refine zv_rload_n dX10_letterFits_10 1 rfl ?_
  refine zg_RX10_19 dX10_letterFits_11 hp0 ?_
  refine zg_RX10_181 dX10_letterFits_14 (zta_10_1 hT hp0) ?_
  refine zv_iload_n dX10_letterFits_17 2 rfl ?_
  refine zv_iald dX10_letterFits_18 (zta_7_11 hT (zta_10_1 hT hp0)) (ztl_7_11 hT (zta_10_1 hT hp0)) (by decide) ?_
  refine zv_iconst (z := 1) dX10_letterFits_19 ?_
  refine zv_join1 28 (fun x2 => [(2, iv x1), (0, rn w p0), (1, iv p1)]) (fun x2 => [iv x2]) (fun x2 => M0) ?_ (fun x2 => ?_)
  · refine zv_icmp_ne (tgt := 27) dX10_letterFits_20 (by decide) ?_ ?_
    · refine zv_iconst (z := 0) dX10_letterFits_27 ?_
      exact zv_sub (L' := [(2, iv x1), (0, rn w p0), (1, iv p1)]) [0, 1, 2] rfl (zv_exit (fun h => h))
    refine zv_iconst (z := 1) dX10_letterFits_23 ?_
    refine zv_goto (tgt := 28) dX10_letterFits_24 (by decide) ?_
    exact zv_sub (L' := [(2, iv x1), (0, rn w p0), (1, iv p1)]) [0, 1, 2] rfl (zv_exit (fun h => h))
  refine zv_istore_np (L' := [(3, iv x2), (2, iv x1), (0, rn w p0), (1, iv p1)]) (by rfl) dX10_letterFits_28 (by decide) rfl ?_
  refine zv_rload_n dX10_letterFits_29 2 rfl ?_
  refine zg_RX10_19 dX10_letterFits_30 hp0 ?_
  refine zg_RX10_187 dX10_letterFits_33 (zta_10_1 hT hp0) ?_
  refine zv_iload_n dX10_letterFits_36 3 rfl ?_
  refine zv_iald dX10_letterFits_37 (zta_7_13 hT (zta_10_1 hT hp0)) (ztl_7_13 hT (zta_10_1 hT hp0)) (by decide) ?_
  refine zv_istore dX10_letterFits_38 (fun x3 => [(4, iv x3), (3, iv x2), (2, iv x1), (0, rn w p0), (1, iv p1)]) (by decide) (fun _ => rfl) (fun x3 => ?_)
  refine zv_joinS0 (fun r => (r)) 114 ([]) ([]) (M0) (zv_sub (L' := [(4, iv x3), (0, rn w p0), (1, iv p1), (2, iv x1), (3, iv x2)]) [0, 3, 4, 2, 1] rfl (vl_X10_letterFits_40 hw p0 p1 x1 x2 hp0 M0 _ (fun h => h) (fun _ h => ((fun h => h)) h) x3)) (?_)
  refine zv_iconst (z := 0) dX10_letterFits_114 ?_
  exact zv_ret (fun h => h) (zv_zrB (by decide) dX10_letterFits_115)
def fb_X10_fits_15 (k : zK)  (l0 : Nat) (l1 : Int) (M0 : zM) (y2 : Int) (y3 : Int) : Option ((Int × Int) ⊕ ((Int) ⊕ Int)) :=
  zbr y3 (M0 (zfr k l0 1) 19) (M0 (zfr k l0 1) 19 ≤ y3) (some (.inr (.inl y2))) (zb1 (f_X10_letterFits k l0 y3 M0) (fun v1 => zbr v1 0 (v1 = 0) (zbr l1 0 (¬ l1 = 0) (zlt (y3 + 1) (fun x3 => some (.inl (y2, x3)))) (some (.inr (.inr y3)))) (zlt (y2 + 1) (fun x4 => zlt (y3 + 1) (fun x5 => some (.inl (x4, x5)))))))
def f_X10_fits (k : zK)  (p0 : Nat) (p1 : Int) (M0 : zM) : Option Int :=
  zsp0 (zbr p1 (-1) (p1 = (-1)) (some (.inl ())) (zbr p1 0 (p1 = 0) (some (.inl ())) (some (.inr (-1))))) (fun r => some r) (zsp1 (zw2 (fb_X10_fits_15 k p0 p1 M0) zfu 0 0) (fun r => some ((r))) (fun x6 => zbr p1 (-1) (¬ p1 = (-1)) (some (-1)) (some x6)))
theorem vl_X10_fits_15 {κ : zC} {w : zW} (hw : zWk w)  (l0 : Nat) (l1 : Int) (g0 : ztag w.1 l0 = 11) (M0 : zM) (E : ((Int) ⊕ Int) → Prop) (hX : ∀ (u2 : Int), E (.inl u2) → zB cX10_fits RX10 4 (some .int) κ w (0, 0, 1) 52 [(1, iv l1), (2, iv u2)] [] M0) (hR : ∀ r, E (.inr r) → zRt κ w (0, 0, 1) 1 (M0, r)) (y2 : Int) (y3 : Int) :
    zV cX10_fits RX10 4 (some .int) κ w (0, 0, 1) 15 [(2, iv y2), (3, iv y3), (0, rn w l0), (1, iv l1)] [] M0 (zw2 (fb_X10_fits_15 w.1 l0 l1 M0) zfu y2 y3) E := by
  have hT := hw.1
  refine zv_loop2 (fun y2 y3 => [(2, iv y2), (3, iv y3), (0, rn w l0), (1, iv l1)]) (fun y2 y3 => M0) (fun y2 y3 => ?_) y2 y3
  unfold fb_X10_fits_15
  refine zv_iload_n dX10_fits_15 1 rfl ?_
  refine zv_rload_n dX10_fits_16 2 rfl ?_
  refine zg_RX10_19 dX10_fits_17 g0 ?_
  refine zg_RX10_178 dX10_fits_20 (zta_10_1 hT g0) ?_
  refine zv_icmp_ge (tgt := 52) dX10_fits_23 (by decide) ?_ ?_
  · exact zv_sub (L' := [(1, iv l1), (2, iv y2)]) [3, 0] rfl (zv_exit (fun h => hX _ h))
  refine zv_rload_n dX10_fits_26 2 rfl ?_
  refine zv_iload_n dX10_fits_27 1 rfl ?_
  refine zv_pc (zv_callVi [iv y3] (c_X10_letterFits κ.2.1 hw l0 y3 M0 g0) zmd_X10_letterFits zwI_X10_letterFits zwS_X10_letterFits zwM_RX10_421 zcd_10 g0 rfl (by decide) rfl (Nat.le_of_ble_eq_true rfl) dX10_fits_28 (fun mh2 v1 h2 => ?_))
  obtain rfl := zpuE h2
  refine zv_if_eq (tgt := 40) dX10_fits_31 (by decide) ?_ ?_
  · refine zv_iload_n dX10_fits_40 3 rfl ?_
    refine zv_if_ne (tgt := 46) dX10_fits_41 (by decide) ?_ ?_
    · refine zv_iinc dX10_fits_46 1 rfl (fun x3 => [(3, iv x3), (2, iv y2), (0, rn w l0), (1, iv l1)]) (by decide) (fun _ => rfl) (fun x3 => ?_)
      refine zv_goto (tgt := 15) dX10_fits_49 (by decide) ?_
      exact zv_sub (L' := [(2, iv y2), (3, iv x3), (0, rn w l0), (1, iv l1)]) [1, 0, 2, 3] rfl (zv_exit (fun h => h))
    refine zv_iload_n dX10_fits_44 1 rfl ?_
    exact zv_ret (fun h => hR _ h) (zv_iret dX10_fits_45)
  refine zv_iinc dX10_fits_34 0 rfl (fun x4 => [(2, iv x4), (3, iv y3), (0, rn w l0), (1, iv l1)]) (by decide) (fun _ => rfl) (fun x4 => ?_)
  refine zv_goto (tgt := 46) dX10_fits_37 (by decide) ?_
  refine zv_iinc dX10_fits_46 1 rfl (fun x5 => [(3, iv x5), (2, iv x4), (0, rn w l0), (1, iv l1)]) (by decide) (fun _ => rfl) (fun x5 => ?_)
  refine zv_goto (tgt := 15) dX10_fits_49 (by decide) ?_
  exact zv_sub (L' := [(2, iv x4), (3, iv x5), (0, rn w l0), (1, iv l1)]) [1, 0, 2, 3] rfl (zv_exit (fun h => h))
theorem c_X10_fits (l : Launch) {w : zW} (hw : zWk w)  (p0 : Nat) (p1 : Int) (M0 : zM) (hp0 : ztag w.1 p0 = 11) : zCn l yX10_fits cX10_fits 4 (some .int) (1) 1 w [rn w p0, iv p1] M0 ((f_X10_fits w.1 p0 p1 M0).map fun v => (M0, v)) := by
  have hT := hw.1
  refine zCn_ofP (own := RX10) (by decide) rfl hw (Nat.le_of_ble_eq_true rfl) [(0, rn w p0), (1, iv p1)] rfl ?_
  intro κ hl
  subst hl
  unfold f_X10_fits
  refine zv_iload_n dX10_fits_0 1 rfl ?_
  refine zv_iconst (z := (-1)) dX10_fits_1 ?_
  refine zv_joinS0 (fun r => r) 11 ([(0, rn w p0), (1, iv p1)]) ([]) (M0) ?_ (?_)
  · refine zv_icmp_eq (tgt := 11) dX10_fits_2 (by decide) ?_ ?_
    · exact zv_sub (L' := [(0, rn w p0), (1, iv p1)]) [0, 1] rfl (zv_exit (fun h => h))
    refine zv_iload_n dX10_fits_5 1 rfl ?_
    refine zv_if_eq (tgt := 11) dX10_fits_6 (by decide) ?_ ?_
    · exact zv_sub (L' := [(0, rn w p0), (1, iv p1)]) [0, 1] rfl (zv_exit (fun h => h))
    refine zv_iconst (z := (-1)) dX10_fits_9 ?_
    exact zv_ret (fun h => h) (zv_iret dX10_fits_10)
  refine zv_iconst (z := 0) dX10_fits_11 ?_
  refine zv_istore_np (L' := [(2, iv 0), (0, rn w p0), (1, iv p1)]) (by rfl) dX10_fits_12 (by decide) rfl ?_
  refine zv_iconst (z := 0) dX10_fits_13 ?_
  refine zv_istore_np (L' := [(3, iv 0), (2, iv 0), (0, rn w p0), (1, iv p1)]) (by rfl) dX10_fits_14 (by decide) rfl ?_
  refine zv_joinS1 (fun r => (r)) 52 (fun x6 => [(1, iv p1), (2, iv x6)]) (fun x6 => []) (fun x6 => M0) (zv_sub (L' := [(2, iv 0), (3, iv 0), (0, rn w p0), (1, iv p1)]) [1, 0, 2, 3] rfl (vl_X10_fits_15 hw p0 p1 hp0 M0 _ (fun _ h => ((fun h => h)) h) (fun _ h => ((fun h => h)) h) 0 0)) (fun x6 => ?_)
  refine zv_iload_n dX10_fits_52 0 rfl ?_
  refine zv_iconst (z := (-1)) dX10_fits_53 ?_
  refine zv_icmp_ne (tgt := 61) dX10_fits_54 (by decide) ?_ ?_
  · refine zv_iconst (z := (-1)) dX10_fits_61 ?_
    exact zv_ret (fun h => h) (zv_iret dX10_fits_62)
  refine zv_iload_n dX10_fits_57 1 rfl ?_
  refine zv_goto (tgt := 62) dX10_fits_58 (by decide) ?_
  exact zv_ret (fun h => h) (zv_iret dX10_fits_62)
def f_X8_isBank (k : zK)  (p0 : Nat) (p1 : Int) (p2 : Int) (M0 : zM) : Option Int :=
  zbr p1 (-1) (p1 = (-1)) (some 0) (zgd (0 ≤ p1 ∧ p1 < 256) (zbr (M0 (zfr k p0 0) p1.toNat) 0 (M0 (zfr k p0 0) p1.toNat = 0) (some 0) (zgd (0 ≤ p1 ∧ p1 < 256) (zbr (M0 (zfr k (zfr k p0 2) 5) p1.toNat) p2 (p2 ≤ M0 (zfr k (zfr k p0 2) 5) p1.toNat) (some 0) (some 1)))))
theorem c_X8_isBank (l : Launch) {w : zW} (hw : zWk w)  (p0 : Nat) (p1 : Int) (p2 : Int) (M0 : zM) (hp0 : ztag w.1 p0 = 9) : zCn l yX8_isBank cX8_isBank 3 (some .boolean) (0) 1 w [rn w p0, iv p1, iv p2] M0 ((f_X8_isBank w.1 p0 p1 p2 M0).map fun v => (M0, v)) := by
  have hT := hw.1
  refine zCn_ofP (own := RX8) (by decide) rfl hw (Nat.le_of_ble_eq_true rfl) [(0, rn w p0), (1, iv p1), (2, iv p2)] rfl ?_
  intro κ hl
  subst hl
  unfold f_X8_isBank
  refine zv_iload_n dX8_isBank_0 1 rfl ?_
  refine zv_iconst (z := (-1)) dX8_isBank_1 ?_
  refine zv_icmp_eq (tgt := 31) dX8_isBank_2 (by decide) ?_ ?_
  · refine zv_iconst (z := 0) dX8_isBank_31 ?_
    exact zv_ret (fun h => h) (zv_zrB (by decide) dX8_isBank_32)
  refine zv_rload_n dX8_isBank_5 0 rfl ?_
  refine zg_RX8_9 dX8_isBank_6 hp0 ?_
  refine zv_iload_n dX8_isBank_9 1 rfl ?_
  refine zv_zald dX8_isBank_10 (zta_8_0 hT hp0) (ztl_8_0 hT hp0) (by decide) ?_
  refine zv_if_eq (tgt := 31) dX8_isBank_11 (by decide) ?_ ?_
  · refine zv_iconst (z := 0) dX8_isBank_31 ?_
    exact zv_ret (fun h => h) (zv_zrB (by decide) dX8_isBank_32)
  refine zv_rload_n dX8_isBank_14 0 rfl ?_
  refine zg_RX8_22 dX8_isBank_15 hp0 ?_
  refine zg_RX8_54 dX8_isBank_18 (zta_8_2 hT hp0) ?_
  refine zv_iload_n dX8_isBank_21 1 rfl ?_
  refine zv_iald dX8_isBank_22 (zta_2_5 hT (zta_8_2 hT hp0)) (ztl_2_5 hT (zta_8_2 hT hp0)) (by decide) ?_
  refine zv_iload_n dX8_isBank_23 2 rfl ?_
  refine zv_icmp_ge (tgt := 31) dX8_isBank_24 (by decide) ?_ ?_
  · refine zv_iconst (z := 0) dX8_isBank_31 ?_
    exact zv_ret (fun h => h) (zv_zrB (by decide) dX8_isBank_32)
  refine zv_iconst (z := 1) dX8_isBank_27 ?_
  refine zv_goto (tgt := 32) dX8_isBank_28 (by decide) ?_
  exact zv_ret (fun h => h) (zv_zrB (by decide) dX8_isBank_32)
def f_X8_isFord (k : zK)  (p0 : Nat) (p1 : Int) (p2 : Int) (M0 : zM) : Option Int :=
  zgd (0 ≤ p1 ∧ p1 < 256) (zbr (M0 (zfr k p0 0) p1.toNat) 0 (M0 (zfr k p0 0) p1.toNat = 0) (some 0) (zgd (0 ≤ p1 ∧ p1 < 256) (zbr (M0 (zfr k (zfr k p0 2) 5) p1.toNat) p2 (p2 ≤ M0 (zfr k (zfr k p0 2) 5) p1.toNat) (zb1 (f_X10_beside k p1 1 M0) (fun v1 => zb1 (f_X8_isBank k p0 v1 p2 M0) (fun v3 => zsp0 (zbr v3 0 (v3 = 0) (some (.inl ())) (zb1 (f_X10_beside k p1 2 M0) (fun v5 => zb1 (f_X8_isBank k p0 v5 p2 M0) (fun v7 => zbr v7 0 (v7 = 0) (some (.inl ())) (zbr 1 0 (¬ (1 : Int) = 0) (some (.inr 1)) (zb1 (f_X10_beside k p1 0 M0) (fun v9 => zb1 (f_X8_isBank k p0 v9 p2 M0) (fun v11 => zbr v11 0 (v11 = 0) (some (.inr 0)) (zb1 (f_X10_beside k p1 3 M0) (fun v13 => zb1 (f_X8_isBank k p0 v13 p2 M0) (fun v15 => zbr v15 0 (v15 = 0) (some (.inr 0)) (some (.inr 1))))))))))))) (fun r => some r) (zbr 0 0 (¬ (0 : Int) = 0) (some 1) (zb1 (f_X10_beside k p1 0 M0) (fun v17 => zb1 (f_X8_isBank k p0 v17 p2 M0) (fun v19 => zbr v19 0 (v19 = 0) (some 0) (zb1 (f_X10_beside k p1 3 M0) (fun v21 => zb1 (f_X8_isBank k p0 v21 p2 M0) (fun v23 => zbr v23 0 (v23 = 0) (some 0) (some 1))))))))))) (some 0))))
set_option maxRecDepth 20000 in
theorem c_X8_isFord (l : Launch) {w : zW} (hw : zWk w)  (p0 : Nat) (p1 : Int) (p2 : Int) (M0 : zM) (hp0 : ztag w.1 p0 = 9) : zCn l yX8_isFord cX8_isFord 4 (some .boolean) (1) 1 w [rn w p0, iv p1, iv p2] M0 ((f_X8_isFord w.1 p0 p1 p2 M0).map fun v => (M0, v)) := by
  have hT := hw.1
  refine zCn_ofP (own := RX8) (by decide) rfl hw (Nat.le_of_ble_eq_true rfl) [(0, rn w p0), (1, iv p1), (2, iv p2)] rfl ?_
  intro κ hl
  subst hl
  unfold f_X8_isFord
  refine zv_rload_n dX8_isFord_0 0 rfl ?_
  refine zg_RX8_9 dX8_isFord_1 hp0 ?_
  refine zv_iload_n dX8_isFord_4 1 rfl ?_
  refine zv_zald dX8_isFord_5 (zta_8_0 hT hp0) (ztl_8_0 hT hp0) (by decide) ?_
  refine zv_if_eq (tgt := 22) dX8_isFord_6 (by decide) ?_ ?_
  · refine zv_iconst (z := 0) dX8_isFord_22 ?_
    exact zv_ret (fun h => h) (zv_zrB (by decide) dX8_isFord_23)
  refine zv_rload_n dX8_isFord_9 0 rfl ?_
  refine zg_RX8_22 dX8_isFord_10 hp0 ?_
  refine zg_RX8_54 dX8_isFord_13 (zta_8_2 hT hp0) ?_
  refine zv_iload_n dX8_isFord_16 1 rfl ?_
  refine zv_iald dX8_isFord_17 (zta_2_5 hT (zta_8_2 hT hp0)) (ztl_2_5 hT (zta_8_2 hT hp0)) (by decide) ?_
  refine zv_iload_n dX8_isFord_18 2 rfl ?_
  refine zv_icmp_ge (tgt := 24) dX8_isFord_19 (by decide) ?_ ?_
  · refine zv_rload_n dX8_isFord_24 0 rfl ?_
    refine zv_iload_n dX8_isFord_25 1 rfl ?_
    refine zv_iconst (z := 1) dX8_isFord_26 ?_
    refine zv_pc (zv_callNi [iv p1, iv 1] (c_X10_beside κ.2.1 hw p1 1 M0 ) zmd_X10_beside zwT_X10_beside zwQ_RX8_46 rfl (by decide) rfl (Nat.le_of_ble_eq_true rfl) dX8_isFord_27 (fun mh2 v1 h2 => ?_))
    obtain rfl := zpuE h2
    refine zv_iload_n dX8_isFord_30 2 rfl ?_
    refine zv_pc (zv_callVi [iv v1, iv p2] (c_X8_isBank κ.2.1 hw p0 v1 p2 M0 hp0) zmd_X8_isBank zwI_X8_isBank zwS_X8_isBank zwM_RX8_69 zcd_8 hp0 rfl (by decide) rfl (Nat.le_of_ble_eq_true rfl) dX8_isFord_31 (fun mh4 v3 h4 => ?_))
    obtain rfl := zpuE h4
    refine zv_joinS0 (fun r => r) 54 ([(0, rn w p0), (1, iv p1), (2, iv p2)]) ([]) (M0) ?_ (?_)
    · refine zv_if_eq (tgt := 54) dX8_isFord_34 (by decide) ?_ ?_
      · exact zv_sub (L' := [(0, rn w p0), (1, iv p1), (2, iv p2)]) [0, 1, 2] rfl (zv_exit (fun h => h))
      refine zv_rload_n dX8_isFord_37 0 rfl ?_
      refine zv_iload_n dX8_isFord_38 1 rfl ?_
      refine zv_iconst (z := 2) dX8_isFord_39 ?_
      refine zv_pc (zv_callNi [iv p1, iv 2] (c_X10_beside κ.2.1 hw p1 2 M0 ) zmd_X10_beside zwT_X10_beside zwQ_RX8_46 rfl (by decide) rfl (Nat.le_of_ble_eq_true rfl) dX8_isFord_40 (fun mh6 v5 h6 => ?_))
      obtain rfl := zpuE h6
      refine zv_iload_n dX8_isFord_43 2 rfl ?_
      refine zv_pc (zv_callVi [iv v5, iv p2] (c_X8_isBank κ.2.1 hw p0 v5 p2 M0 hp0) zmd_X8_isBank zwI_X8_isBank zwS_X8_isBank zwM_RX8_69 zcd_8 hp0 rfl (by decide) rfl (Nat.le_of_ble_eq_true rfl) dX8_isFord_44 (fun mh8 v7 h8 => ?_))
      obtain rfl := zpuE h8
      refine zv_if_eq (tgt := 54) dX8_isFord_47 (by decide) ?_ ?_
      · exact zv_sub (L' := [(0, rn w p0), (1, iv p1), (2, iv p2)]) [0, 1, 2] rfl (zv_exit (fun h => h))
      refine zv_iconst (z := 1) dX8_isFord_50 ?_
      refine zv_goto (tgt := 55) dX8_isFord_51 (by decide) ?_
      refine zv_istore_np (L' := [(3, iv 1), (0, rn w p0), (1, iv p1), (2, iv p2)]) (by rfl) dX8_isFord_55 (by decide) rfl ?_
      refine zv_iload_n dX8_isFord_56 0 rfl ?_
      refine zv_if_ne (tgt := 86) dX8_isFord_57 (by decide) ?_ ?_
      · refine zv_iconst (z := 1) dX8_isFord_86 ?_
        refine zv_goto (tgt := 91) dX8_isFord_87 (by decide) ?_
        exact zv_ret (fun h => h) (zv_zrB (by decide) dX8_isFord_91)
      refine zv_rload_n dX8_isFord_60 1 rfl ?_
      refine zv_iload_n dX8_isFord_61 2 rfl ?_
      refine zv_iconst (z := 0) dX8_isFord_62 ?_
      refine zv_pc (zv_callNi [iv p1, iv 0] (c_X10_beside κ.2.1 hw p1 0 M0 ) zmd_X10_beside zwT_X10_beside zwQ_RX8_46 rfl (by decide) rfl (Nat.le_of_ble_eq_true rfl) dX8_isFord_63 (fun mh10 v9 h10 => ?_))
      obtain rfl := zpuE h10
      refine zv_iload_n dX8_isFord_66 3 rfl ?_
      refine zv_pc (zv_callVi [iv v9, iv p2] (c_X8_isBank κ.2.1 hw p0 v9 p2 M0 hp0) zmd_X8_isBank zwI_X8_isBank zwS_X8_isBank zwM_RX8_69 zcd_8 hp0 rfl (by decide) rfl (Nat.le_of_ble_eq_true rfl) dX8_isFord_67 (fun mh12 v11 h12 => ?_))
      obtain rfl := zpuE h12
      refine zv_if_eq (tgt := 90) dX8_isFord_70 (by decide) ?_ ?_
      · refine zv_iconst (z := 0) dX8_isFord_90 ?_
        exact zv_ret (fun h => h) (zv_zrB (by decide) dX8_isFord_91)
      refine zv_rload_n dX8_isFord_73 1 rfl ?_
      refine zv_iload_n dX8_isFord_74 2 rfl ?_
      refine zv_iconst (z := 3) dX8_isFord_75 ?_
      refine zv_pc (zv_callNi [iv p1, iv 3] (c_X10_beside κ.2.1 hw p1 3 M0 ) zmd_X10_beside zwT_X10_beside zwQ_RX8_46 rfl (by decide) rfl (Nat.le_of_ble_eq_true rfl) dX8_isFord_76 (fun mh14 v13 h14 => ?_))
      obtain rfl := zpuE h14
      refine zv_iload_n dX8_isFord_79 3 rfl ?_
      refine zv_pc (zv_callVi [iv v13, iv p2] (c_X8_isBank κ.2.1 hw p0 v13 p2 M0 hp0) zmd_X8_isBank zwI_X8_isBank zwS_X8_isBank zwM_RX8_69 zcd_8 hp0 rfl (by decide) rfl (Nat.le_of_ble_eq_true rfl) dX8_isFord_80 (fun mh16 v15 h16 => ?_))
      obtain rfl := zpuE h16
      refine zv_if_eq (tgt := 90) dX8_isFord_83 (by decide) ?_ ?_
      · refine zv_iconst (z := 0) dX8_isFord_90 ?_
        exact zv_ret (fun h => h) (zv_zrB (by decide) dX8_isFord_91)
      refine zv_iconst (z := 1) dX8_isFord_86 ?_
      refine zv_goto (tgt := 91) dX8_isFord_87 (by decide) ?_
      exact zv_ret (fun h => h) (zv_zrB (by decide) dX8_isFord_91)
    refine zv_iconst (z := 0) dX8_isFord_54 ?_
    refine zv_istore_np (L' := [(3, iv 0), (0, rn w p0), (1, iv p1), (2, iv p2)]) (by rfl) dX8_isFord_55 (by decide) rfl ?_
    refine zv_iload_n dX8_isFord_56 0 rfl ?_
    refine zv_if_ne (tgt := 86) dX8_isFord_57 (by decide) ?_ ?_
    · refine zv_iconst (z := 1) dX8_isFord_86 ?_
      refine zv_goto (tgt := 91) dX8_isFord_87 (by decide) ?_
      exact zv_ret (fun h => h) (zv_zrB (by decide) dX8_isFord_91)
    refine zv_rload_n dX8_isFord_60 1 rfl ?_
    refine zv_iload_n dX8_isFord_61 2 rfl ?_
    refine zv_iconst (z := 0) dX8_isFord_62 ?_
    refine zv_pc (zv_callNi [iv p1, iv 0] (c_X10_beside κ.2.1 hw p1 0 M0 ) zmd_X10_beside zwT_X10_beside zwQ_RX8_46 rfl (by decide) rfl (Nat.le_of_ble_eq_true rfl) dX8_isFord_63 (fun mh18 v17 h18 => ?_))
    obtain rfl := zpuE h18
    refine zv_iload_n dX8_isFord_66 3 rfl ?_
    refine zv_pc (zv_callVi [iv v17, iv p2] (c_X8_isBank κ.2.1 hw p0 v17 p2 M0 hp0) zmd_X8_isBank zwI_X8_isBank zwS_X8_isBank zwM_RX8_69 zcd_8 hp0 rfl (by decide) rfl (Nat.le_of_ble_eq_true rfl) dX8_isFord_67 (fun mh20 v19 h20 => ?_))
    obtain rfl := zpuE h20
    refine zv_if_eq (tgt := 90) dX8_isFord_70 (by decide) ?_ ?_
    · refine zv_iconst (z := 0) dX8_isFord_90 ?_
      exact zv_ret (fun h => h) (zv_zrB (by decide) dX8_isFord_91)
    refine zv_rload_n dX8_isFord_73 1 rfl ?_
    refine zv_iload_n dX8_isFord_74 2 rfl ?_
    refine zv_iconst (z := 3) dX8_isFord_75 ?_
    refine zv_pc (zv_callNi [iv p1, iv 3] (c_X10_beside κ.2.1 hw p1 3 M0 ) zmd_X10_beside zwT_X10_beside zwQ_RX8_46 rfl (by decide) rfl (Nat.le_of_ble_eq_true rfl) dX8_isFord_76 (fun mh22 v21 h22 => ?_))
    obtain rfl := zpuE h22
    refine zv_iload_n dX8_isFord_79 3 rfl ?_
    refine zv_pc (zv_callVi [iv v21, iv p2] (c_X8_isBank κ.2.1 hw p0 v21 p2 M0 hp0) zmd_X8_isBank zwI_X8_isBank zwS_X8_isBank zwM_RX8_69 zcd_8 hp0 rfl (by decide) rfl (Nat.le_of_ble_eq_true rfl) dX8_isFord_80 (fun mh24 v23 h24 => ?_))
    obtain rfl := zpuE h24
    refine zv_if_eq (tgt := 90) dX8_isFord_83 (by decide) ?_ ?_
    · refine zv_iconst (z := 0) dX8_isFord_90 ?_
      exact zv_ret (fun h => h) (zv_zrB (by decide) dX8_isFord_91)
    refine zv_iconst (z := 1) dX8_isFord_86 ?_
    refine zv_goto (tgt := 91) dX8_isFord_87 (by decide) ?_
    exact zv_ret (fun h => h) (zv_zrB (by decide) dX8_isFord_91)
  refine zv_iconst (z := 0) dX8_isFord_22 ?_
  exact zv_ret (fun h => h) (zv_zrB (by decide) dX8_isFord_23)
def fb_X10_ford_38 (k : zK)  (l2 : Int) (l3 : Int) (l4 : Nat) (M0 : zM) (y5 : Int) (y6 : Int) : Option ((Int × Int) ⊕ ((Int) ⊕ (zM × Int))) :=
  zbr y6 256 (256 ≤ y6) (some (.inr (.inl y5))) (zb1 (f_X8_isFord k l4 y6 l2 M0) (fun v6 => zbr v6 0 (v6 = 0) (zlt (y6 + 1) (fun x8 => some (.inl (y5, x8)))) (zbr y5 l3 (¬ y5 = l3) (zlt (y5 + 1) (fun x9 => zlt (y6 + 1) (fun x10 => some (.inl (x9, x10))))) (some (.inr (.inr (M0, y6)))))))
def f_X10_ford (k : zK)  (p0 : Nat) (p1 : Int) (p2 : Int) (p3 : Int) (M0 : zM) : Option (zM × Int) :=
  zb1 (f_X10_isAge k p1 M0) (fun v1 => zbr v1 0 (v1 = 0) (some (M0, (-1))) (zbr p2 2 (p2 < 2) (some (M0, (-1))) (zbr p2 99 (99 < p2) (some (M0, (-1))) (zbr p3 (-1) ((-1) ≤ p3) (zbd (f_X10_viewAt k p0 p1 M0) (fun M4 v3 => zgd (ztag k v3.toNat = 9) (zsp1 (zw2 (fb_X10_ford_38 k p2 p3 (v3.toNat) M4) zfu 0 0) (fun r => some (r)) (fun x11 => zbr p3 (-1) (¬ p3 = (-1)) (some (M4, (-1))) (some (M4, x11)))))) (some (M0, (-1)))))))
theorem vl_X10_ford_38 {κ : zC} {w : zW} (hw : zWk w)  (l2 : Int) (l3 : Int) (l4 : Nat) (g4 : ztag w.1 l4 = 9) (M0 : zM) (E : ((Int) ⊕ (zM × Int)) → Prop) (hX : ∀ (u5 : Int), E (.inl u5) → zB cX10_ford RX10 7 (some .int) κ w (0, 0, 6) 75 [(3, iv l3), (5, iv u5)] [] M0) (hR : ∀ r, E (.inr r) → zRt κ w (0, 0, 6) 1 r) (y5 : Int) (y6 : Int) :
    zV cX10_ford RX10 7 (some .int) κ w (0, 0, 6) 38 [(5, iv y5), (6, iv y6), (2, iv l2), (3, iv l3), (4, rn w l4)] [] M0 (zw2 (fb_X10_ford_38 w.1 l2 l3 l4 M0) zfu y5 y6) E := by
  have hT := hw.1
  refine zv_loop2 (fun y5 y6 => [(5, iv y5), (6, iv y6), (2, iv l2), (3, iv l3), (4, rn w l4)]) (fun y5 y6 => M0) (fun y5 y6 => ?_) y5 y6
  unfold fb_X10_ford_38
  refine zv_iload dX10_ford_38 1 rfl ?_
  refine zv_sipush (z := 256) dX10_ford_40 (by decide) ?_
  refine zv_icmp_ge (tgt := 75) dX10_ford_43 (by decide) ?_ ?_
  · exact zv_sub (L' := [(3, iv l3), (5, iv y5)]) [3, 0] rfl (zv_exit (fun h => hX _ h))
  refine zv_rload dX10_ford_46 4 rfl ?_
  refine zv_iload dX10_ford_48 1 rfl ?_
  refine zv_iload_n dX10_ford_50 2 rfl ?_
  refine zv_pc (zv_callVi [iv y6, iv l2] (c_X8_isFord κ.2.1 hw l4 y6 l2 M0 g4) zmd_X8_isFord zwI_X8_isFord zwS_X8_isFord zwM_RX10_276 zcd_8 g4 rfl (by decide) rfl (Nat.le_of_ble_eq_true rfl) dX10_ford_51 (fun mh7 v6 h7 => ?_))
  obtain rfl := zpuE h7
  refine zv_if_eq (tgt := 69) dX10_ford_54 (by decide) ?_ ?_
  · refine zv_iinc dX10_ford_69 1 rfl (fun x8 => [(6, iv x8), (5, iv y5), (2, iv l2), (3, iv l3), (4, rn w l4)]) (by decide) (fun _ => rfl) (fun x8 => ?_)
    refine zv_goto (tgt := 38) dX10_ford_72 (by decide) ?_
    exact zv_sub (L' := [(5, iv y5), (6, iv x8), (2, iv l2), (3, iv l3), (4, rn w l4)]) [1, 0, 2, 3, 4] rfl (zv_exit (fun h => h))
  refine zv_iload dX10_ford_57 0 rfl ?_
  refine zv_iload_n dX10_ford_59 3 rfl ?_
  refine zv_icmp_ne (tgt := 66) dX10_ford_60 (by decide) ?_ ?_
  · refine zv_iinc dX10_ford_66 0 rfl (fun x9 => [(5, iv x9), (6, iv y6), (2, iv l2), (3, iv l3), (4, rn w l4)]) (by decide) (fun _ => rfl) (fun x9 => ?_)
    refine zv_iinc dX10_ford_69 1 rfl (fun x10 => [(6, iv x10), (5, iv x9), (2, iv l2), (3, iv l3), (4, rn w l4)]) (by decide) (fun _ => rfl) (fun x10 => ?_)
    refine zv_goto (tgt := 38) dX10_ford_72 (by decide) ?_
    exact zv_sub (L' := [(5, iv x9), (6, iv x10), (2, iv l2), (3, iv l3), (4, rn w l4)]) [1, 0, 2, 3, 4] rfl (zv_exit (fun h => h))
  refine zv_iload dX10_ford_63 1 rfl ?_
  exact zv_ret (fun h => hR _ h) (zv_iret dX10_ford_65)
theorem c_X10_ford (l : Launch) {w : zW} (hw : zWk w)  (p0 : Nat) (p1 : Int) (p2 : Int) (p3 : Int) (M0 : zM) (hp0 : ztag w.1 p0 = 11) : zCn l yX10_ford cX10_ford 7 (some .int) (6) 1 w [rn w p0, iv p1, iv p2, iv p3] M0 (f_X10_ford w.1 p0 p1 p2 p3 M0) := by
  have hT := hw.1
  refine zCn_of (own := RX10) (by decide) rfl hw (Nat.le_of_ble_eq_true rfl) [(0, rn w p0), (1, iv p1), (2, iv p2), (3, iv p3)] rfl ?_
  intro κ hl
  subst hl
  unfold f_X10_ford
  refine zv_iload_n dX10_ford_0 1 rfl ?_
  refine zv_pc (zv_callSi [iv p1] (c_X10_isAge κ.2.1 hw p1 M0 ) zmd_X10_isAge zwT_X10_isAge zwM_RX10_197 rfl (by decide) rfl (Nat.le_of_ble_eq_true rfl) dX10_ford_1 (fun mh2 v1 h2 => ?_))
  obtain rfl := zpuE h2
  refine zv_if_eq (tgt := 23) dX10_ford_4 (by decide) ?_ ?_
  · refine zv_iconst (z := (-1)) dX10_ford_23 ?_
    exact zv_ret (fun h => h) (zv_iret dX10_ford_24)
  refine zv_iload_n dX10_ford_7 2 rfl ?_
  refine zv_iconst (z := 2) dX10_ford_8 ?_
  refine zv_icmp_lt (tgt := 23) dX10_ford_9 (by decide) ?_ ?_
  · refine zv_iconst (z := (-1)) dX10_ford_23 ?_
    exact zv_ret (fun h => h) (zv_iret dX10_ford_24)
  refine zv_iload_n dX10_ford_12 2 rfl ?_
  refine zv_bipush (z := 99) dX10_ford_13 (by decide) ?_
  refine zv_icmp_gt (tgt := 23) dX10_ford_15 (by decide) ?_ ?_
  · refine zv_iconst (z := (-1)) dX10_ford_23 ?_
    exact zv_ret (fun h => h) (zv_iret dX10_ford_24)
  refine zv_iload_n dX10_ford_18 3 rfl ?_
  refine zv_iconst (z := (-1)) dX10_ford_19 ?_
  refine zv_icmp_ge (tgt := 25) dX10_ford_20 (by decide) ?_ ?_
  · refine zv_rload_n dX10_ford_25 0 rfl ?_
    refine zv_iload_n dX10_ford_26 1 rfl ?_
    refine (zv_callVr [iv p1] (c_X10_viewAt κ.2.1 hw p0 p1 M0 hp0) zmd_X10_viewAt zwI_X10_viewAt zwS_X10_viewAt zwM_RX10_236 zcd_10 hp0 rfl (by decide) rfl (Nat.le_of_ble_eq_true rfl) dX10_ford_27 (fun M4 v3 _ => ?_))
    refine zv_gd (fun h5 => ?_)
    refine zv_rstore_p (L' := [(4, rn w (v3.toNat)), (0, rn w p0), (1, iv p1), (2, iv p2), (3, iv p3)]) dX10_ford_30 (by decide) rfl ?_
    refine zv_iconst (z := 0) dX10_ford_32 ?_
    refine zv_istore_p (L' := [(5, iv 0), (4, rn w (v3.toNat)), (0, rn w p0), (1, iv p1), (2, iv p2), (3, iv p3)]) dX10_ford_33 (by decide) rfl ?_
    refine zv_iconst (z := 0) dX10_ford_35 ?_
    refine zv_istore_p (L' := [(6, iv 0), (5, iv 0), (4, rn w (v3.toNat)), (0, rn w p0), (1, iv p1), (2, iv p2), (3, iv p3)]) dX10_ford_36 (by decide) rfl ?_
    refine zv_joinS1 (fun r => r) 75 (fun x11 => [(3, iv p3), (5, iv x11)]) (fun x11 => []) (fun x11 => M4) (zv_sub (L' := [(5, iv 0), (6, iv 0), (2, iv p2), (3, iv p3), (4, rn w (v3.toNat))]) [1, 0, 5, 6, 2] rfl (vl_X10_ford_38 hw p2 p3 (v3.toNat) h5 M4 _ (fun _ h => ((fun h => h)) h) (fun _ h => ((fun h => h)) h) 0 0)) (fun x11 => ?_)
    refine zv_iload_n dX10_ford_75 0 rfl ?_
    refine zv_iconst (z := (-1)) dX10_ford_76 ?_
    refine zv_icmp_ne (tgt := 85) dX10_ford_77 (by decide) ?_ ?_
    · refine zv_iconst (z := (-1)) dX10_ford_85 ?_
      exact zv_ret (fun h => h) (zv_iret dX10_ford_86)
    refine zv_iload dX10_ford_80 1 rfl ?_
    refine zv_goto (tgt := 86) dX10_ford_82 (by decide) ?_
    exact zv_ret (fun h => h) (zv_iret dX10_ford_86)
  refine zv_iconst (z := (-1)) dX10_ford_23 ?_
  exact zv_ret (fun h => h) (zv_iret dX10_ford_24)
def f_X10_forgetGround (k : zK)  (p0 : Nat) (M0 : zM) : Option zM :=
  zgd ((1 : Int) = 0 ∨ (1 : Int) = 1) (zlt (zst M0 p0 14 1) (fun M1 => zb1 (f_X9_forget k (zfr k p0 7) M1) (fun M2 => some M2)))
theorem c_X10_forgetGround (l : Launch) {w : zW} (hw : zWk w)  (p0 : Nat) (M0 : zM) (hp0 : ztag w.1 p0 = 11) : zCn l yX10_forgetGround cX10_forgetGround 1 none (1) 0 w [rn w p0] M0 ((f_X10_forgetGround w.1 p0 M0).map fun m => (m, (0 : Int))) := by
  have hT := hw.1
  refine zCn_ofV (own := RX10) (by decide) rfl hw (Nat.le_of_ble_eq_true rfl) [(0, rn w p0)] rfl ?_
  intro κ hl
  subst hl
  unfold f_X10_forgetGround
  refine zv_rload_n dX10_forgetGround_0 0 rfl ?_
  refine zv_iconst (z := 1) dX10_forgetGround_1 ?_
  refine zp_RX10_88 dX10_forgetGround_2 hp0 (fun M1 => ?_)
  refine zv_rload_n dX10_forgetGround_5 0 rfl ?_
  refine zg_RX10_56 dX10_forgetGround_6 hp0 ?_
  refine zv_vc (zv_callVv [] (c_X9_forget κ.2.1 hw (zfr w.1 p0 7) M1 (zta_10_7 hT hp0)) zmd_X9_forget zwI_X9_forget zwS_X9_forget zwM_RX10_138 zcd_9 (zta_10_7 hT hp0) rfl (by decide) rfl (Nat.le_of_ble_eq_true rfl) dX10_forgetGround_9 (fun M2 _ _ => ?_))
  exact zv_ret (fun h => h) (zv_vret (v := 0) dX10_forgetGround_12)
def f_X10_found (k : zK)  (p0 : Nat) (p1 : Int) (p2 : Int) (M0 : zM) : Option Int :=
  zbr p1 0 (p1 < 0) (some (-1)) (zbr p1 (M0 (zfr k p0 1) 17) (M0 (zfr k p0 1) 17 ≤ p1) (some (-1)) (zbr p1 60 (p1 < 60) (zgd (zr p2) (if p2 = 0 then (zgd (0 ≤ p1 ∧ p1 < 60) (some (M0 (zfr k (zfr k p0 1) 6) p1.toNat))) else (if p2 = 1 then (zgd (0 ≤ p1 ∧ p1 < 60) (some (M0 (zfr k (zfr k p0 1) 7) p1.toNat))) else (if p2 = 2 then (zgd (0 ≤ p1 ∧ p1 < 60) (some (M0 (zfr k (zfr k p0 1) 8) p1.toNat))) else (if p2 = 3 then (zgd (0 ≤ p1 ∧ p1 < 60) (some (M0 (zfr k (zfr k p0 1) 9) p1.toNat))) else (some (-1))))))) (some (-1))))
theorem c_X10_found (l : Launch) {w : zW} (hw : zWk w)  (p0 : Nat) (p1 : Int) (p2 : Int) (M0 : zM) (hp0 : ztag w.1 p0 = 11) : zCn l yX10_found cX10_found 3 (some .int) (0) 1 w [rn w p0, iv p1, iv p2] M0 ((f_X10_found w.1 p0 p1 p2 M0).map fun v => (M0, v)) := by
  have hT := hw.1
  refine zCn_ofP (own := RX10) (by decide) rfl hw (Nat.le_of_ble_eq_true rfl) [(0, rn w p0), (1, iv p1), (2, iv p2)] rfl ?_
  intro κ hl
  subst hl
  unfold f_X10_found
  refine zv_iload_n dX10_found_0 1 rfl ?_
  refine zv_if_lt (tgt := 21) dX10_found_1 (by decide) ?_ ?_
  · refine zv_iconst (z := (-1)) dX10_found_21 ?_
    exact zv_ret (fun h => h) (zv_iret dX10_found_22)
  refine zv_iload_n dX10_found_4 1 rfl ?_
  refine zv_rload_n dX10_found_5 0 rfl ?_
  refine zg_RX10_19 dX10_found_6 hp0 ?_
  refine zg_RX10_148 dX10_found_9 (zta_10_1 hT hp0) ?_
  refine zv_icmp_ge (tgt := 21) dX10_found_12 (by decide) ?_ ?_
  · refine zv_iconst (z := (-1)) dX10_found_21 ?_
    exact zv_ret (fun h => h) (zv_iret dX10_found_22)
  refine zv_iload_n dX10_found_15 1 rfl ?_
  refine zv_bipush (z := 60) dX10_found_16 (by decide) ?_
  refine zv_icmp_lt (tgt := 23) dX10_found_18 (by decide) ?_ ?_
  · refine zv_iload_n dX10_found_23 2 rfl ?_
    refine zv_gd (fun h1 => ?_)
    refine zv_ite (fun h2 => ?_) (fun h3 => ?_)
    · refine zv_tin (tgt := 56) dX10_found_24 h2 (by decide) (by decide) (by decide) rfl (by decide) ?_
      refine zv_rload_n dX10_found_56 0 rfl ?_
      refine zg_RX10_19 dX10_found_57 hp0 ?_
      refine zg_RX10_151 dX10_found_60 (zta_10_1 hT hp0) ?_
      refine zv_iload_n dX10_found_63 1 rfl ?_
      refine zv_iald dX10_found_64 (zta_7_6 hT (zta_10_1 hT hp0)) (ztl_7_6 hT (zta_10_1 hT hp0)) (by decide) ?_
      exact zv_ret (fun h => h) (zv_iret dX10_found_65)
    refine zv_ite (fun h4 => ?_) (fun h5 => ?_)
    · refine zv_tin (tgt := 66) dX10_found_24 h4 (by decide) (by decide) (by decide) rfl (by decide) ?_
      refine zv_rload_n dX10_found_66 0 rfl ?_
      refine zg_RX10_19 dX10_found_67 hp0 ?_
      refine zg_RX10_154 dX10_found_70 (zta_10_1 hT hp0) ?_
      refine zv_iload_n dX10_found_73 1 rfl ?_
      refine zv_iald dX10_found_74 (zta_7_7 hT (zta_10_1 hT hp0)) (ztl_7_7 hT (zta_10_1 hT hp0)) (by decide) ?_
      exact zv_ret (fun h => h) (zv_iret dX10_found_75)
    refine zv_ite (fun h6 => ?_) (fun h7 => ?_)
    · refine zv_tin (tgt := 76) dX10_found_24 h6 (by decide) (by decide) (by decide) rfl (by decide) ?_
      refine zv_rload_n dX10_found_76 0 rfl ?_
      refine zg_RX10_19 dX10_found_77 hp0 ?_
      refine zg_RX10_157 dX10_found_80 (zta_10_1 hT hp0) ?_
      refine zv_iload_n dX10_found_83 1 rfl ?_
      refine zv_iald dX10_found_84 (zta_7_8 hT (zta_10_1 hT hp0)) (ztl_7_8 hT (zta_10_1 hT hp0)) (by decide) ?_
      exact zv_ret (fun h => h) (zv_iret dX10_found_85)
    refine zv_ite (fun h8 => ?_) (fun h9 => ?_)
    · refine zv_tin (tgt := 86) dX10_found_24 h8 (by decide) (by decide) (by decide) rfl (by decide) ?_
      refine zv_rload_n dX10_found_86 0 rfl ?_
      refine zg_RX10_19 dX10_found_87 hp0 ?_
      refine zg_RX10_160 dX10_found_90 (zta_10_1 hT hp0) ?_
      refine zv_iload_n dX10_found_93 1 rfl ?_
      refine zv_iald dX10_found_94 (zta_7_9 hT (zta_10_1 hT hp0)) (ztl_7_9 hT (zta_10_1 hT hp0)) (by decide) ?_
      exact zv_ret (fun h => h) (zv_iret dX10_found_95)
    refine zv_tout (tgt := 96) dX10_found_24 h1 (by omega) (by decide) ?_
    refine zv_iconst (z := (-1)) dX10_found_96 ?_
    exact zv_ret (fun h => h) (zv_iret dX10_found_97)
  refine zv_iconst (z := (-1)) dX10_found_21 ?_
  exact zv_ret (fun h => h) (zv_iret dX10_found_22)
def f_X10_isWave (k : zK)  (p0 : Int) (p1 : Int) (M0 : zM) : Option Int :=
  zbr p0 1 (p0 < 1) (some 0) (zbr p0 99 (99 < p0) (some 0) (zbr p1 0 (p1 < 0) (some 0) (zbr p1 20 (20 < p1) (some 0) (some 1))))
theorem c_X10_isWave (l : Launch) {w : zW} (hw : zWk w)  (p0 : Int) (p1 : Int) (M0 : zM)  : zCn l yX10_isWave cX10_isWave 2 (some .boolean) (0) 1 w [iv p0, iv p1] M0 ((f_X10_isWave w.1 p0 p1 M0).map fun v => (M0, v)) := by
  have hT := hw.1
  refine zCn_ofP (own := RX10) (by decide) rfl hw (Nat.le_of_ble_eq_true rfl) [(0, iv p0), (1, iv p1)] rfl ?_
  intro κ hl
  subst hl
  unfold f_X10_isWave
  refine zv_iload_n dX10_isWave_0 0 rfl ?_
  refine zv_iconst (z := 1) dX10_isWave_1 ?_
  refine zv_icmp_lt (tgt := 25) dX10_isWave_2 (by decide) ?_ ?_
  · refine zv_iconst (z := 0) dX10_isWave_25 ?_
    exact zv_ret (fun h => h) (zv_zrB (by decide) dX10_isWave_26)
  refine zv_iload_n dX10_isWave_5 0 rfl ?_
  refine zv_bipush (z := 99) dX10_isWave_6 (by decide) ?_
  refine zv_icmp_gt (tgt := 25) dX10_isWave_8 (by decide) ?_ ?_
  · refine zv_iconst (z := 0) dX10_isWave_25 ?_
    exact zv_ret (fun h => h) (zv_zrB (by decide) dX10_isWave_26)
  refine zv_iload_n dX10_isWave_11 1 rfl ?_
  refine zv_if_lt (tgt := 25) dX10_isWave_12 (by decide) ?_ ?_
  · refine zv_iconst (z := 0) dX10_isWave_25 ?_
    exact zv_ret (fun h => h) (zv_zrB (by decide) dX10_isWave_26)
  refine zv_iload_n dX10_isWave_15 1 rfl ?_
  refine zv_bipush (z := 20) dX10_isWave_16 (by decide) ?_
  refine zv_icmp_gt (tgt := 25) dX10_isWave_18 (by decide) ?_ ?_
  · refine zv_iconst (z := 0) dX10_isWave_25 ?_
    exact zv_ret (fun h => h) (zv_zrB (by decide) dX10_isWave_26)
  refine zv_iconst (z := 1) dX10_isWave_21 ?_
  refine zv_goto (tgt := 26) dX10_isWave_22 (by decide) ?_
  exact zv_ret (fun h => h) (zv_zrB (by decide) dX10_isWave_26)
def f_X8_standsTo (k : zK)  (p0 : Nat) (p1 : Int) (p2 : Int) (M0 : zM) : Option Int :=
  zb1 (f_X8_heightOf k p0 p1 M0) (fun v1 => zgd (0 ≤ p1 ∧ p1 < 256) (some (v1 + (p2 * (M0 (zfr k p0 1) p1.toNat)))))
theorem c_X8_standsTo (l : Launch) {w : zW} (hw : zWk w)  (p0 : Nat) (p1 : Int) (p2 : Int) (M0 : zM) (hp0 : ztag w.1 p0 = 9) : zCn l yX8_standsTo cX8_standsTo 3 (some .int) (1) 1 w [rn w p0, iv p1, iv p2] M0 ((f_X8_standsTo w.1 p0 p1 p2 M0).map fun v => (M0, v)) := by
  have hT := hw.1
  refine zCn_ofP (own := RX8) (by decide) rfl hw (Nat.le_of_ble_eq_true rfl) [(0, rn w p0), (1, iv p1), (2, iv p2)] rfl ?_
  intro κ hl
  subst hl
  unfold f_X8_standsTo
  refine zv_rload_n dX8_standsTo_0 0 rfl ?_
  refine zv_iload_n dX8_standsTo_1 1 rfl ?_
  refine zv_pc (zv_callVi [iv p1] (c_X8_heightOf κ.2.1 hw p0 p1 M0 hp0) zmd_X8_heightOf zwI_X8_heightOf zwS_X8_heightOf zwM_RX8_50 zcd_8 hp0 rfl (by decide) rfl (Nat.le_of_ble_eq_true rfl) dX8_standsTo_2 (fun mh2 v1 h2 => ?_))
  obtain rfl := zpuE h2
  refine zv_iload_n dX8_standsTo_5 2 rfl ?_
  refine zv_rload_n dX8_standsTo_6 0 rfl ?_
  refine zg_RX8_15 dX8_standsTo_7 hp0 ?_
  refine zv_iload_n dX8_standsTo_10 1 rfl ?_
  refine zv_iald dX8_standsTo_11 (zta_8_1 hT hp0) (ztl_8_1 hT hp0) (by decide) ?_
  refine zv_imul dX8_standsTo_12 ?_
  refine zv_iadd dX8_standsTo_13 ?_
  exact zv_ret (fun h => h) (zv_iret dX8_standsTo_14)
def f_X10_gone (k : zK)  (p0 : Nat) (p1 : Int) (p2 : Int) (p3 : Int) (p4 : Int) (M0 : zM) : Option (zM × Int) :=
  zb1 (f_X10_isCell k p1 M0) (fun v1 => zbr v1 0 (v1 = 0) (some (M0, (-2))) (zb1 (f_X10_isAge k p2 M0) (fun v3 => zbr v3 0 (v3 = 0) (some (M0, (-2))) (zb1 (f_X10_isWave k p3 p4 M0) (fun v5 => zbr v5 0 (¬ v5 = 0) (zbd (f_X10_viewAt k p0 p2 M0) (fun M8 v7 => zgd (ztag k v7.toNat = 9) (zgd (0 ≤ p1 ∧ p1 < 256) (zbr (M8 (zfr k (v7.toNat) 0) p1.toNat) 0 (¬ M8 (zfr k (v7.toNat) 0) p1.toNat = 0) (zb1 (f_X8_standsTo k (v7.toNat) p1 p4 M8) (fun v10 => zbr v10 p3 (p3 ≤ v10) (some (M8, 0)) (some (M8, 1)))) (some (M8, (-1))))))) (some (M0, (-2))))))))
theorem c_X10_gone (l : Launch) {w : zW} (hw : zWk w)  (p0 : Nat) (p1 : Int) (p2 : Int) (p3 : Int) (p4 : Int) (M0 : zM) (hp0 : ztag w.1 p0 = 11) : zCn l yX10_gone cX10_gone 6 (some .int) (6) 1 w [rn w p0, iv p1, iv p2, iv p3, iv p4] M0 (f_X10_gone w.1 p0 p1 p2 p3 p4 M0) := by
  have hT := hw.1
  refine zCn_of (own := RX10) (by decide) rfl hw (Nat.le_of_ble_eq_true rfl) [(0, rn w p0), (1, iv p1), (2, iv p2), (3, iv p3), (4, iv p4)] rfl ?_
  intro κ hl
  subst hl
  unfold f_X10_gone
  refine zv_iload_n dX10_gone_0 1 rfl ?_
  refine zv_pc (zv_callSi [iv p1] (c_X10_isCell κ.2.1 hw p1 M0 ) zmd_X10_isCell zwT_X10_isCell zwM_RX10_92 rfl (by decide) rfl (Nat.le_of_ble_eq_true rfl) dX10_gone_1 (fun mh2 v1 h2 => ?_))
  obtain rfl := zpuE h2
  refine zv_if_eq (tgt := 23) dX10_gone_4 (by decide) ?_ ?_
  · refine zv_bipush (z := (-2)) dX10_gone_23 (by decide) ?_
    exact zv_ret (fun h => h) (zv_iret dX10_gone_25)
  refine zv_iload_n dX10_gone_7 2 rfl ?_
  refine zv_pc (zv_callSi [iv p2] (c_X10_isAge κ.2.1 hw p2 M0 ) zmd_X10_isAge zwT_X10_isAge zwM_RX10_197 rfl (by decide) rfl (Nat.le_of_ble_eq_true rfl) dX10_gone_8 (fun mh4 v3 h4 => ?_))
  obtain rfl := zpuE h4
  refine zv_if_eq (tgt := 23) dX10_gone_11 (by decide) ?_ ?_
  · refine zv_bipush (z := (-2)) dX10_gone_23 (by decide) ?_
    exact zv_ret (fun h => h) (zv_iret dX10_gone_25)
  refine zv_iload_n dX10_gone_14 3 rfl ?_
  refine zv_iload dX10_gone_15 4 rfl ?_
  refine zv_pc (zv_callSi [iv p3, iv p4] (c_X10_isWave κ.2.1 hw p3 p4 M0 ) zmd_X10_isWave zwT_X10_isWave zwM_RX10_372 rfl (by decide) rfl (Nat.le_of_ble_eq_true rfl) dX10_gone_17 (fun mh6 v5 h6 => ?_))
  obtain rfl := zpuE h6
  refine zv_if_ne (tgt := 26) dX10_gone_20 (by decide) ?_ ?_
  · refine zv_rload_n dX10_gone_26 0 rfl ?_
    refine zv_iload_n dX10_gone_27 2 rfl ?_
    refine (zv_callVr [iv p2] (c_X10_viewAt κ.2.1 hw p0 p2 M0 hp0) zmd_X10_viewAt zwI_X10_viewAt zwS_X10_viewAt zwM_RX10_236 zcd_10 hp0 rfl (by decide) rfl (Nat.le_of_ble_eq_true rfl) dX10_gone_28 (fun M8 v7 _ => ?_))
    refine zv_gd (fun h9 => ?_)
    refine zv_rstore_p (L' := [(5, rn w (v7.toNat)), (0, rn w p0), (1, iv p1), (2, iv p2), (3, iv p3), (4, iv p4)]) dX10_gone_31 (by decide) rfl ?_
    refine zv_rload dX10_gone_33 0 rfl ?_
    refine zg_RX10_240 dX10_gone_35 h9 ?_
    refine zv_iload_n dX10_gone_38 2 rfl ?_
    refine zv_zald dX10_gone_39 (zta_8_0 hT h9) (ztl_8_0 hT h9) (by decide) ?_
    refine zv_if_ne (tgt := 45) dX10_gone_40 (by decide) ?_ ?_
    · refine zv_rload dX10_gone_45 0 rfl ?_
      refine zv_iload_n dX10_gone_47 2 rfl ?_
      refine zv_iload dX10_gone_48 5 rfl ?_
      refine zv_pc (zv_callVi [iv p1, iv p4] (c_X8_standsTo κ.2.1 hw (v7.toNat) p1 p4 M8 h9) zmd_X8_standsTo zwI_X8_standsTo zwS_X8_standsTo zwM_RX10_375 zcd_8 h9 rfl (by decide) rfl (Nat.le_of_ble_eq_true rfl) dX10_gone_50 (fun mh11 v10 h11 => ?_))
      obtain rfl := zpuE h11
      refine zv_iload_n dX10_gone_53 4 rfl ?_
      refine zv_icmp_ge (tgt := 61) dX10_gone_54 (by decide) ?_ ?_
      · refine zv_iconst (z := 0) dX10_gone_61 ?_
        exact zv_ret (fun h => h) (zv_iret dX10_gone_62)
      refine zv_iconst (z := 1) dX10_gone_57 ?_
      refine zv_goto (tgt := 62) dX10_gone_58 (by decide) ?_
      exact zv_ret (fun h => h) (zv_iret dX10_gone_62)
    refine zv_iconst (z := (-1)) dX10_gone_43 ?_
    exact zv_ret (fun h => h) (zv_iret dX10_gone_44)
  refine zv_bipush (z := (-2)) dX10_gone_23 (by decide) ?_
  exact zv_ret (fun h => h) (zv_iret dX10_gone_25)
def fb_X10_height_45 (k : zK)  (l0 : Nat) (l2 : Int) (l3 : Int) (l4 : Nat) (M0 : zM) (y5 : Int) (y6 : Int) (y7 : Int) : Option ((Int × Int × Int) ⊕ (Int × Int)) :=
  zbr y7 256 (256 ≤ y7) (some (.inr (y5, y6))) (zgd (0 ≤ y7 ∧ y7 < 256) (zbr (M0 (zfr k (zfr k l0 1) 3) y7.toNat) (-1) (M0 (zfr k (zfr k l0 1) 3) y7.toNat = (-1)) (zlt (y7 + 1) (fun x6 => some (.inl (y5, y6, x6)))) (zgd (0 ≤ y7 ∧ y7 < 256) (zbr (M0 (zfr k l4 0) y7.toNat) 0 (M0 (zfr k l4 0) y7.toNat = 0) (zlt (y7 + 1) (fun x7 => some (.inl (y5, y6, x7)))) (zb1 (f_X8_standsTo k l4 y7 l2 M0) (fun v8 => zgd (0 ≤ y7 ∧ y7 < 256) (zbr (M0 (zfr k (zfr k l0 1) 3) y7.toNat) 1 (¬ M0 (zfr k (zfr k l0 1) 3) y7.toNat = 1) (zgd (zr y6 ∧ zr v8) (zlt (zmin y6 v8) (fun x10 => zlt (y7 + 1) (fun x11 => some (.inl (y5, x10, x11)))))) (zgd (zr y5 ∧ zr (v8 + 1)) (zlt (zmax y5 (v8 + 1)) (fun x12 => zlt (y7 + 1) (fun x13 => some (.inl (x12, y6, x13)))))))))))))
def f_X10_height (k : zK)  (p0 : Nat) (p1 : Int) (p2 : Int) (p3 : Int) (M0 : zM) : Option (zM × Int) :=
  zb1 (f_X10_isAge k p1 M0) (fun v1 => zbr v1 0 (v1 = 0) (some (M0, (-1))) (zbr p2 0 (p2 < 0) (some (M0, (-1))) (zbr p2 20 (20 < p2) (some (M0, (-1))) (zbr p3 0 (p3 < 0) (some (M0, (-1))) (zbr p3 2 (p3 ≤ 2) (zbd (f_X10_viewAt k p0 p1 M0) (fun M4 v3 => zgd (ztag k v3.toNat = 9) (zb2 (zw3 (fb_X10_height_45 k p0 p2 p3 (v3.toNat) M4) zfu 1 99 0) (fun x14 x15 => zbr p3 2 (¬ p3 = 2) (zbr x14 x15 (x14 ≤ x15) (zbr p3 0 (¬ p3 = 0) (some (M4, x15)) (some (M4, x14))) (some (M4, (-1)))) (zgd (zr 0 ∧ zr ((x15 - x14) + 1)) (some (M4, zmax 0 ((x15 - x14) + 1)))))))) (some (M0, (-1))))))))
theorem vl_X10_height_45 {κ : zC} {w : zW} (hw : zWk w)  (l0 : Nat) (l2 : Int) (l3 : Int) (l4 : Nat) (g0 : ztag w.1 l0 = 11) (g4 : ztag w.1 l4 = 9) (M0 : zM) (E : (Int × Int) → Prop) (hX : ∀ (u5 : Int) (u6 : Int), E (u5, u6) → zB cX10_height RX10 9 (some .int) κ w (0, 0, 6) 131 [(3, iv l3), (5, iv u5), (6, iv u6)] [] M0)  (y5 : Int) (y6 : Int) (y7 : Int) :
    zV cX10_height RX10 9 (some .int) κ w (0, 0, 6) 45 [(5, iv y5), (6, iv y6), (7, iv y7), (0, rn w l0), (2, iv l2), (3, iv l3), (4, rn w l4)] [] M0 (zw3 (fb_X10_height_45 w.1 l0 l2 l3 l4 M0) zfu y5 y6 y7) E := by
  have hT := hw.1
  refine zv_loop3 (fun y5 y6 y7 => [(5, iv y5), (6, iv y6), (7, iv y7), (0, rn w l0), (2, iv l2), (3, iv l3), (4, rn w l4)]) (fun y5 y6 y7 => M0) (fun y5 y6 y7 => ?_) y5 y6 y7
  unfold fb_X10_height_45
  refine zv_iload dX10_height_45 2 rfl ?_
  refine zv_sipush (z := 256) dX10_height_47 (by decide) ?_
  refine zv_icmp_ge (tgt := 131) dX10_height_50 (by decide) ?_ ?_
  · exact zv_sub (L' := [(3, iv l3), (5, iv y5), (6, iv y6)]) [5, 0, 1] rfl (zv_exit (fun h => hX _ _ h))
  refine zv_rload_n dX10_height_53 3 rfl ?_
  refine zg_RX10_19 dX10_height_54 g0 ?_
  refine zg_RX10_163 dX10_height_57 (zta_10_1 hT g0) ?_
  refine zv_iload dX10_height_60 2 rfl ?_
  refine zv_iald dX10_height_62 (zta_7_3 hT (zta_10_1 hT g0)) (ztl_7_3 hT (zta_10_1 hT g0)) (by decide) ?_
  refine zv_iconst (z := (-1)) dX10_height_63 ?_
  refine zv_icmp_eq (tgt := 125) dX10_height_64 (by decide) ?_ ?_
  · refine zv_iinc dX10_height_125 2 rfl (fun x6 => [(7, iv x6), (5, iv y5), (6, iv y6), (0, rn w l0), (2, iv l2), (3, iv l3), (4, rn w l4)]) (by decide) (fun _ => rfl) (fun x6 => ?_)
    refine zv_goto (tgt := 45) dX10_height_128 (by decide) ?_
    exact zv_sub (L' := [(5, iv y5), (6, iv y6), (7, iv x6), (0, rn w l0), (2, iv l2), (3, iv l3), (4, rn w l4)]) [1, 2, 0, 3, 4, 5, 6] rfl (zv_exit (fun h => h))
  refine zv_rload dX10_height_67 6 rfl ?_
  refine zg_RX10_240 dX10_height_69 g4 ?_
  refine zv_iload dX10_height_72 2 rfl ?_
  refine zv_zald dX10_height_74 (zta_8_0 hT g4) (ztl_8_0 hT g4) (by decide) ?_
  refine zv_if_eq (tgt := 125) dX10_height_75 (by decide) ?_ ?_
  · refine zv_iinc dX10_height_125 2 rfl (fun x7 => [(7, iv x7), (5, iv y5), (6, iv y6), (0, rn w l0), (2, iv l2), (3, iv l3), (4, rn w l4)]) (by decide) (fun _ => rfl) (fun x7 => ?_)
    refine zv_goto (tgt := 45) dX10_height_128 (by decide) ?_
    exact zv_sub (L' := [(5, iv y5), (6, iv y6), (7, iv x7), (0, rn w l0), (2, iv l2), (3, iv l3), (4, rn w l4)]) [1, 2, 0, 3, 4, 5, 6] rfl (zv_exit (fun h => h))
  refine zv_rload dX10_height_78 6 rfl ?_
  refine zv_iload dX10_height_80 2 rfl ?_
  refine zv_iload_n dX10_height_82 4 rfl ?_
  refine zv_pc (zv_callVi [iv y7, iv l2] (c_X8_standsTo κ.2.1 hw l4 y7 l2 M0 g4) zmd_X8_standsTo zwI_X8_standsTo zwS_X8_standsTo zwM_RX10_375 zcd_8 g4 rfl (by decide) rfl (Nat.le_of_ble_eq_true rfl) dX10_height_83 (fun mh9 v8 h9 => ?_))
  obtain rfl := zpuE h9
  refine zv_istore_p (L' := [(8, iv v8), (5, iv y5), (6, iv y6), (7, iv y7), (0, rn w l0), (2, iv l2), (3, iv l3), (4, rn w l4)]) dX10_height_86 (by decide) rfl ?_
  refine zv_rload_n dX10_height_88 4 rfl ?_
  refine zg_RX10_19 dX10_height_89 g0 ?_
  refine zg_RX10_163 dX10_height_92 (zta_10_1 hT g0) ?_
  refine zv_iload dX10_height_95 3 rfl ?_
  refine zv_iald dX10_height_97 (zta_7_3 hT (zta_10_1 hT g0)) (ztl_7_3 hT (zta_10_1 hT g0)) (by decide) ?_
  refine zv_iconst (z := 1) dX10_height_98 ?_
  refine zv_icmp_ne (tgt := 116) dX10_height_99 (by decide) ?_ ?_
  · refine zv_iload dX10_height_116 2 rfl ?_
    refine zv_iload dX10_height_118 0 rfl ?_
    refine zv_mmin zwM_RX10_385 (by decide) (Nat.le_of_ble_eq_true rfl) dX10_height_120 ?_
    refine zv_istore dX10_height_123 (fun x10 => [(6, iv x10), (8, iv v8), (5, iv y5), (7, iv y7), (0, rn w l0), (2, iv l2), (3, iv l3), (4, rn w l4)]) (by decide) (fun _ => rfl) (fun x10 => ?_)
    refine zv_iinc dX10_height_125 3 rfl (fun x11 => [(7, iv x11), (6, iv x10), (8, iv v8), (5, iv y5), (0, rn w l0), (2, iv l2), (3, iv l3), (4, rn w l4)]) (by decide) (fun _ => rfl) (fun x11 => ?_)
    refine zv_goto (tgt := 45) dX10_height_128 (by decide) ?_
    exact zv_sub (L' := [(5, iv y5), (6, iv x10), (7, iv x11), (0, rn w l0), (2, iv l2), (3, iv l3), (4, rn w l4)]) [3, 1, 0, 4, 5, 6, 7] rfl (zv_exit (fun h => h))
  refine zv_iload dX10_height_102 1 rfl ?_
  refine zv_iload dX10_height_104 0 rfl ?_
  refine zv_iconst (z := 1) dX10_height_106 ?_
  refine zv_iadd dX10_height_107 ?_
  refine zv_mmax zwM_RX10_369 (by decide) (Nat.le_of_ble_eq_true rfl) dX10_height_108 ?_
  refine zv_istore dX10_height_111 (fun x12 => [(5, iv x12), (8, iv v8), (6, iv y6), (7, iv y7), (0, rn w l0), (2, iv l2), (3, iv l3), (4, rn w l4)]) (by decide) (fun _ => rfl) (fun x12 => ?_)
  refine zv_goto (tgt := 125) dX10_height_113 (by decide) ?_
  refine zv_iinc dX10_height_125 3 rfl (fun x13 => [(7, iv x13), (5, iv x12), (8, iv v8), (6, iv y6), (0, rn w l0), (2, iv l2), (3, iv l3), (4, rn w l4)]) (by decide) (fun _ => rfl) (fun x13 => ?_)
  refine zv_goto (tgt := 45) dX10_height_128 (by decide) ?_
  exact zv_sub (L' := [(5, iv x12), (6, iv y6), (7, iv x13), (0, rn w l0), (2, iv l2), (3, iv l3), (4, rn w l4)]) [1, 3, 0, 4, 5, 6, 7] rfl (zv_exit (fun h => h))
set_option maxRecDepth 20000 in
theorem c_X10_height (l : Launch) {w : zW} (hw : zWk w)  (p0 : Nat) (p1 : Int) (p2 : Int) (p3 : Int) (M0 : zM) (hp0 : ztag w.1 p0 = 11) : zCn l yX10_height cX10_height 9 (some .int) (6) 1 w [rn w p0, iv p1, iv p2, iv p3] M0 (f_X10_height w.1 p0 p1 p2 p3 M0) := by
  have hT := hw.1
  refine zCn_of (own := RX10) (by decide) rfl hw (Nat.le_of_ble_eq_true rfl) [(0, rn w p0), (1, iv p1), (2, iv p2), (3, iv p3)] rfl ?_
  intro κ hl
  subst hl
  unfold f_X10_height
  refine zv_iload_n dX10_height_0 1 rfl ?_
  refine zv_pc (zv_callSi [iv p1] (c_X10_isAge κ.2.1 hw p1 M0 ) zmd_X10_isAge zwT_X10_isAge zwM_RX10_197 rfl (by decide) rfl (Nat.le_of_ble_eq_true rfl) dX10_height_1 (fun mh2 v1 h2 => ?_))
  obtain rfl := zpuE h2
  refine zv_if_eq (tgt := 26) dX10_height_4 (by decide) ?_ ?_
  · refine zv_iconst (z := (-1)) dX10_height_26 ?_
    exact zv_ret (fun h => h) (zv_iret dX10_height_27)
  refine zv_iload_n dX10_height_7 2 rfl ?_
  refine zv_if_lt (tgt := 26) dX10_height_8 (by decide) ?_ ?_
  · refine zv_iconst (z := (-1)) dX10_height_26 ?_
    exact zv_ret (fun h => h) (zv_iret dX10_height_27)
  refine zv_iload_n dX10_height_11 2 rfl ?_
  refine zv_bipush (z := 20) dX10_height_12 (by decide) ?_
  refine zv_icmp_gt (tgt := 26) dX10_height_14 (by decide) ?_ ?_
  · refine zv_iconst (z := (-1)) dX10_height_26 ?_
    exact zv_ret (fun h => h) (zv_iret dX10_height_27)
  refine zv_iload_n dX10_height_17 3 rfl ?_
  refine zv_if_lt (tgt := 26) dX10_height_18 (by decide) ?_ ?_
  · refine zv_iconst (z := (-1)) dX10_height_26 ?_
    exact zv_ret (fun h => h) (zv_iret dX10_height_27)
  refine zv_iload_n dX10_height_21 3 rfl ?_
  refine zv_iconst (z := 2) dX10_height_22 ?_
  refine zv_icmp_le (tgt := 28) dX10_height_23 (by decide) ?_ ?_
  · refine zv_rload_n dX10_height_28 0 rfl ?_
    refine zv_iload_n dX10_height_29 1 rfl ?_
    refine (zv_callVr [iv p1] (c_X10_viewAt κ.2.1 hw p0 p1 M0 hp0) zmd_X10_viewAt zwI_X10_viewAt zwS_X10_viewAt zwM_RX10_236 zcd_10 hp0 rfl (by decide) rfl (Nat.le_of_ble_eq_true rfl) dX10_height_30 (fun M4 v3 _ => ?_))
    refine zv_gd (fun h5 => ?_)
    refine zv_rstore_p (L' := [(4, rn w (v3.toNat)), (0, rn w p0), (1, iv p1), (2, iv p2), (3, iv p3)]) dX10_height_33 (by decide) rfl ?_
    refine zv_iconst (z := 1) dX10_height_35 ?_
    refine zv_istore_p (L' := [(5, iv 1), (4, rn w (v3.toNat)), (0, rn w p0), (1, iv p1), (2, iv p2), (3, iv p3)]) dX10_height_36 (by decide) rfl ?_
    refine zv_bipush (z := 99) dX10_height_38 (by decide) ?_
    refine zv_istore_p (L' := [(6, iv 99), (5, iv 1), (4, rn w (v3.toNat)), (0, rn w p0), (1, iv p1), (2, iv p2), (3, iv p3)]) dX10_height_40 (by decide) rfl ?_
    refine zv_iconst (z := 0) dX10_height_42 ?_
    refine zv_istore_p (L' := [(7, iv 0), (6, iv 99), (5, iv 1), (4, rn w (v3.toNat)), (0, rn w p0), (1, iv p1), (2, iv p2), (3, iv p3)]) dX10_height_43 (by decide) rfl ?_
    refine zv_join2 131 (fun x14 x15 => [(3, iv p3), (5, iv x14), (6, iv x15)]) (fun x14 x15 => []) (fun x14 x15 => M4) (zv_sub (L' := [(5, iv 1), (6, iv 99), (7, iv 0), (0, rn w p0), (2, iv p2), (3, iv p3), (4, rn w (v3.toNat))]) [2, 1, 0, 4, 6, 7, 3] rfl (vl_X10_height_45 hw p0 p2 p3 (v3.toNat) hp0 h5 M4 _ (fun _ _ h => h) 1 99 0)) (fun x14 x15 => ?_)
    refine zv_iload_n dX10_height_131 0 rfl ?_
    refine zv_iconst (z := 2) dX10_height_132 ?_
    refine zv_icmp_ne (tgt := 148) dX10_height_133 (by decide) ?_ ?_
    · refine zv_iload dX10_height_148 1 rfl ?_
      refine zv_iload dX10_height_150 2 rfl ?_
      refine zv_icmp_le (tgt := 157) dX10_height_152 (by decide) ?_ ?_
      · refine zv_iload_n dX10_height_157 0 rfl ?_
        refine zv_if_ne (tgt := 166) dX10_height_158 (by decide) ?_ ?_
        · refine zv_iload dX10_height_166 2 rfl ?_
          exact zv_ret (fun h => h) (zv_iret dX10_height_168)
        refine zv_iload dX10_height_161 1 rfl ?_
        refine zv_goto (tgt := 168) dX10_height_163 (by decide) ?_
        exact zv_ret (fun h => h) (zv_iret dX10_height_168)
      refine zv_iconst (z := (-1)) dX10_height_155 ?_
      exact zv_ret (fun h => h) (zv_iret dX10_height_156)
    refine zv_iconst (z := 0) dX10_height_136 ?_
    refine zv_iload dX10_height_137 2 rfl ?_
    refine zv_iload dX10_height_139 1 rfl ?_
    refine zv_isub dX10_height_141 ?_
    refine zv_iconst (z := 1) dX10_height_142 ?_
    refine zv_iadd dX10_height_143 ?_
    refine zv_mmax zwM_RX10_369 (by decide) (Nat.le_of_ble_eq_true rfl) dX10_height_144 ?_
    exact zv_ret (fun h => h) (zv_iret dX10_height_147)
  refine zv_iconst (z := (-1)) dX10_height_26 ?_
  exact zv_ret (fun h => h) (zv_iret dX10_height_27)
def f_X4_isNotBehind (k : zK)  (p0 : Nat) (p1 : Int) (p2 : Int) (p3 : Int) (M0 : zM) : Option Int :=
  zbr p3 (-1) (¬ p3 = (-1)) (zb1 (f_X4_of k p0 p1 p2 M0) (fun v1 => zb1 (f_X4_of k p0 p1 p3 M0) (fun v3 => zbr v1 v3 (v3 < v1) (some 1) (zbr v1 v3 (¬ v1 = v3) (some 0) (zbr p2 p3 (p3 < p2) (some 0) (some 1)))))) (some 0)
theorem c_X4_isNotBehind (l : Launch) {w : zW} (hw : zWk w)  (p0 : Nat) (p1 : Int) (p2 : Int) (p3 : Int) (M0 : zM) (hp0 : ztag w.1 p0 = 5) : zCn l yX4_isNotBehind cX4_isNotBehind 6 (some .boolean) (1) 1 w [rn w p0, iv p1, iv p2, iv p3] M0 ((f_X4_isNotBehind w.1 p0 p1 p2 p3 M0).map fun v => (M0, v)) := by
  have hT := hw.1
  refine zCn_ofP (own := RX4) (by decide) rfl hw (Nat.le_of_ble_eq_true rfl) [(0, rn w p0), (1, iv p1), (2, iv p2), (3, iv p3)] rfl ?_
  intro κ hl
  subst hl
  unfold f_X4_isNotBehind
  refine zv_iload_n dX4_isNotBehind_0 3 rfl ?_
  refine zv_iconst (z := (-1)) dX4_isNotBehind_1 ?_
  refine zv_icmp_ne (tgt := 7) dX4_isNotBehind_2 (by decide) ?_ ?_
  · refine zv_rload_n dX4_isNotBehind_7 0 rfl ?_
    refine zv_iload_n dX4_isNotBehind_8 1 rfl ?_
    refine zv_iload_n dX4_isNotBehind_9 2 rfl ?_
    refine zv_pc (zv_callVi [iv p1, iv p2] (c_X4_of κ.2.1 hw p0 p1 p2 M0 hp0) zmd_X4_of zwI_X4_of zwS_X4_of zwM_RX4_44 zcd_4 hp0 rfl (by decide) rfl (Nat.le_of_ble_eq_true rfl) dX4_isNotBehind_10 (fun mh2 v1 h2 => ?_))
    obtain rfl := zpuE h2
    refine zv_istore_p (L' := [(4, iv v1), (0, rn w p0), (1, iv p1), (2, iv p2), (3, iv p3)]) dX4_isNotBehind_13 (by decide) rfl ?_
    refine zv_rload_n dX4_isNotBehind_15 1 rfl ?_
    refine zv_iload_n dX4_isNotBehind_16 2 rfl ?_
    refine zv_iload_n dX4_isNotBehind_17 4 rfl ?_
    refine zv_pc (zv_callVi [iv p1, iv p3] (c_X4_of κ.2.1 hw p0 p1 p3 M0 hp0) zmd_X4_of zwI_X4_of zwS_X4_of zwM_RX4_44 zcd_4 hp0 rfl (by decide) rfl (Nat.le_of_ble_eq_true rfl) dX4_isNotBehind_18 (fun mh4 v3 h4 => ?_))
    obtain rfl := zpuE h4
    refine zv_istore_p (L' := [(5, iv v3), (4, iv v1), (0, rn w p0), (1, iv p1), (2, iv p2), (3, iv p3)]) dX4_isNotBehind_21 (by decide) rfl ?_
    refine zv_iload dX4_isNotBehind_23 1 rfl ?_
    refine zv_iload dX4_isNotBehind_25 0 rfl ?_
    refine zv_icmp_gt (tgt := 42) dX4_isNotBehind_27 (by decide) ?_ ?_
    · refine zv_iconst (z := 1) dX4_isNotBehind_42 ?_
      refine zv_goto (tgt := 47) dX4_isNotBehind_43 (by decide) ?_
      exact zv_ret (fun h => h) (zv_zrB (by decide) dX4_isNotBehind_47)
    refine zv_iload dX4_isNotBehind_30 1 rfl ?_
    refine zv_iload dX4_isNotBehind_32 0 rfl ?_
    refine zv_icmp_ne (tgt := 46) dX4_isNotBehind_34 (by decide) ?_ ?_
    · refine zv_iconst (z := 0) dX4_isNotBehind_46 ?_
      exact zv_ret (fun h => h) (zv_zrB (by decide) dX4_isNotBehind_47)
    refine zv_iload_n dX4_isNotBehind_37 4 rfl ?_
    refine zv_iload_n dX4_isNotBehind_38 5 rfl ?_
    refine zv_icmp_gt (tgt := 46) dX4_isNotBehind_39 (by decide) ?_ ?_
    · refine zv_iconst (z := 0) dX4_isNotBehind_46 ?_
      exact zv_ret (fun h => h) (zv_zrB (by decide) dX4_isNotBehind_47)
    refine zv_iconst (z := 1) dX4_isNotBehind_42 ?_
    refine zv_goto (tgt := 47) dX4_isNotBehind_43 (by decide) ?_
    exact zv_ret (fun h => h) (zv_zrB (by decide) dX4_isNotBehind_47)
  refine zv_iconst (z := 0) dX4_isNotBehind_5 ?_
  exact zv_ret (fun h => h) (zv_zrB (by decide) dX4_isNotBehind_6)
def fb_X10_held_72 (k : zK)  (l0 : Nat) (l4 : Int) (l5 : Int) (M0 : zM) (y6 : Int) (y7 : Int) : Option ((Int × Int) ⊕ (Int)) :=
  zbr y7 (M0 (zfr k l0 1) 17) (M0 (zfr k l0 1) 17 ≤ y7) (some (.inr y6)) (zgd (0 ≤ y7 ∧ y7 < 60) (zb1 (f_X4_isNotBehind k (zfr k l0 5) l4 (M0 (zfr k (zfr k l0 1) 6) y7.toNat) l5 M0) (fun v10 => zbr v10 0 (v10 = 0) (zlt (y7 + 1) (fun x12 => some (.inl (y6, x12)))) (zlt (y6 + 1) (fun x13 => zlt (y7 + 1) (fun x14 => some (.inl (x13, x14))))))))
def f_X10_held (k : zK)  (p0 : Nat) (p1 : Int) (p2 : Int) (p3 : Int) (M0 : zM) : Option (zM × Int) :=
  zb1 (f_X10_isAge k p1 M0) (fun v1 => zbr v1 0 (v1 = 0) (some (M0, (-1))) (zbr p2 1 (p2 < 1) (some (M0, (-1))) (zbr p2 256 (256 < p2) (some (M0, (-1))) (zb1 (f_X10_isPart k p3 M0) (fun v3 => zbr v3 0 (¬ v3 = 0) (zbr p3 1 (¬ p3 = 1) (zb1 (f_X10_settle k p0 M0) (fun M5 => zbd (f_X10_spanKnown k p0 p1 M5) (fun M7 v6 => zbd (f_X4_ranked k (zfr k p0 5) v6 (p2 - 1) M7) (fun M9 v8 => zb1 (zw2 (fb_X10_held_72 k p0 v6 v8 M9) zfu 0 0) (fun x15 => some (M9, x15)))))) (some (M0, M0 (zfr k p0 1) 17))) (some (M0, (-1))))))))
theorem vl_X10_held_72 {κ : zC} {w : zW} (hw : zWk w)  (l0 : Nat) (l4 : Int) (l5 : Int) (g0 : ztag w.1 l0 = 11) (M0 : zM) (E : (Int) → Prop) (hX : ∀ (u6 : Int), E u6 → zB cX10_held RX10 8 (some .int) κ w (0, 0, 5) 117 [(6, iv u6)] [] M0)  (y6 : Int) (y7 : Int) :
    zV cX10_held RX10 8 (some .int) κ w (0, 0, 5) 72 [(6, iv y6), (7, iv y7), (0, rn w l0), (4, iv l4), (5, iv l5)] [] M0 (zw2 (fb_X10_held_72 w.1 l0 l4 l5 M0) zfu y6 y7) E := by
  have hT := hw.1
  refine zv_loop2 (fun y6 y7 => [(6, iv y6), (7, iv y7), (0, rn w l0), (4, iv l4), (5, iv l5)]) (fun y6 y7 => M0) (fun y6 y7 => ?_) y6 y7
  unfold fb_X10_held_72
  refine zv_iload dX10_held_72 1 rfl ?_
  refine zv_rload_n dX10_held_74 2 rfl ?_
  refine zg_RX10_19 dX10_held_75 g0 ?_
  refine zg_RX10_148 dX10_held_78 (zta_10_1 hT g0) ?_
  refine zv_icmp_ge (tgt := 117) dX10_held_81 (by decide) ?_ ?_
  · exact zv_sub (L' := [(6, iv y6)]) [0] rfl (zv_exit (fun h => hX _ h))
  refine zv_rload_n dX10_held_84 2 rfl ?_
  refine zg_RX10_42 dX10_held_85 g0 ?_
  refine zv_iload dX10_held_88 3 rfl ?_
  refine zv_rload_n dX10_held_90 2 rfl ?_
  refine zg_RX10_19 dX10_held_91 g0 ?_
  refine zg_RX10_151 dX10_held_94 (zta_10_1 hT g0) ?_
  refine zv_iload dX10_held_97 1 rfl ?_
  refine zv_iald dX10_held_99 (zta_7_6 hT (zta_10_1 hT g0)) (ztl_7_6 hT (zta_10_1 hT g0)) (by decide) ?_
  refine zv_iload dX10_held_100 4 rfl ?_
  refine zv_pc (zv_callVi [iv l4, iv (M0 (zfr w.1 (zfr w.1 l0 1) 6) y7.toNat), iv l5] (c_X4_isNotBehind κ.2.1 hw (zfr w.1 l0 5) l4 (M0 (zfr w.1 (zfr w.1 l0 1) 6) y7.toNat) l5 M0 (zta_10_5 hT g0)) zmd_X4_isNotBehind zwI_X4_isNotBehind zwS_X4_isNotBehind zwM_RX10_316 zcd_4 (zta_10_5 hT g0) rfl (by decide) rfl (Nat.le_of_ble_eq_true rfl) dX10_held_102 (fun mh11 v10 h11 => ?_))
  obtain rfl := zpuE h11
  refine zv_if_eq (tgt := 111) dX10_held_105 (by decide) ?_ ?_
  · refine zv_iinc dX10_held_111 1 rfl (fun x12 => [(7, iv x12), (6, iv y6), (0, rn w l0), (4, iv l4), (5, iv l5)]) (by decide) (fun _ => rfl) (fun x12 => ?_)
    refine zv_goto (tgt := 72) dX10_held_114 (by decide) ?_
    exact zv_sub (L' := [(6, iv y6), (7, iv x12), (0, rn w l0), (4, iv l4), (5, iv l5)]) [1, 0, 2, 3, 4] rfl (zv_exit (fun h => h))
  refine zv_iinc dX10_held_108 0 rfl (fun x13 => [(6, iv x13), (7, iv y7), (0, rn w l0), (4, iv l4), (5, iv l5)]) (by decide) (fun _ => rfl) (fun x13 => ?_)
  refine zv_iinc dX10_held_111 1 rfl (fun x14 => [(7, iv x14), (6, iv x13), (0, rn w l0), (4, iv l4), (5, iv l5)]) (by decide) (fun _ => rfl) (fun x14 => ?_)
  refine zv_goto (tgt := 72) dX10_held_114 (by decide) ?_
  exact zv_sub (L' := [(6, iv x13), (7, iv x14), (0, rn w l0), (4, iv l4), (5, iv l5)]) [1, 0, 2, 3, 4] rfl (zv_exit (fun h => h))
theorem c_X10_held (l : Launch) {w : zW} (hw : zWk w)  (p0 : Nat) (p1 : Int) (p2 : Int) (p3 : Int) (M0 : zM) (hp0 : ztag w.1 p0 = 11) : zCn l yX10_held cX10_held 8 (some .int) (5) 1 w [rn w p0, iv p1, iv p2, iv p3] M0 (f_X10_held w.1 p0 p1 p2 p3 M0) := by
  have hT := hw.1
  refine zCn_of (own := RX10) (by decide) rfl hw (Nat.le_of_ble_eq_true rfl) [(0, rn w p0), (1, iv p1), (2, iv p2), (3, iv p3)] rfl ?_
  intro κ hl
  subst hl
  unfold f_X10_held
  refine zv_iload_n dX10_held_0 1 rfl ?_
  refine zv_pc (zv_callSi [iv p1] (c_X10_isAge κ.2.1 hw p1 M0 ) zmd_X10_isAge zwT_X10_isAge zwM_RX10_197 rfl (by decide) rfl (Nat.le_of_ble_eq_true rfl) dX10_held_1 (fun mh2 v1 h2 => ?_))
  obtain rfl := zpuE h2
  refine zv_if_eq (tgt := 26) dX10_held_4 (by decide) ?_ ?_
  · refine zv_iconst (z := (-1)) dX10_held_26 ?_
    exact zv_ret (fun h => h) (zv_iret dX10_held_27)
  refine zv_iload_n dX10_held_7 2 rfl ?_
  refine zv_iconst (z := 1) dX10_held_8 ?_
  refine zv_icmp_lt (tgt := 26) dX10_held_9 (by decide) ?_ ?_
  · refine zv_iconst (z := (-1)) dX10_held_26 ?_
    exact zv_ret (fun h => h) (zv_iret dX10_held_27)
  refine zv_iload_n dX10_held_12 2 rfl ?_
  refine zv_sipush (z := 256) dX10_held_13 (by decide) ?_
  refine zv_icmp_gt (tgt := 26) dX10_held_16 (by decide) ?_ ?_
  · refine zv_iconst (z := (-1)) dX10_held_26 ?_
    exact zv_ret (fun h => h) (zv_iret dX10_held_27)
  refine zv_iload_n dX10_held_19 3 rfl ?_
  refine zv_pc (zv_callSi [iv p3] (c_X10_isPart κ.2.1 hw p3 M0 ) zmd_X10_isPart zwT_X10_isPart zwM_RX10_200 rfl (by decide) rfl (Nat.le_of_ble_eq_true rfl) dX10_held_20 (fun mh4 v3 h4 => ?_))
  obtain rfl := zpuE h4
  refine zv_if_ne (tgt := 28) dX10_held_23 (by decide) ?_ ?_
  · refine zv_iload_n dX10_held_28 3 rfl ?_
    refine zv_iconst (z := 1) dX10_held_29 ?_
    refine zv_icmp_ne (tgt := 41) dX10_held_30 (by decide) ?_ ?_
    · refine zv_rload_n dX10_held_41 0 rfl ?_
      refine zv_vc (zv_callVv [] (c_X10_settle κ.2.1 hw p0 M0 hp0) zmd_X10_settle zwI_X10_settle zwS_X10_settle zwM_RX10_213 zcd_10 hp0 rfl (by decide) rfl (Nat.le_of_ble_eq_true rfl) dX10_held_42 (fun M5 _ _ => ?_))
      refine zv_rload_n dX10_held_45 0 rfl ?_
      refine zv_iload_n dX10_held_46 1 rfl ?_
      refine (zv_callVi [iv p1] (c_X10_spanKnown κ.2.1 hw p0 p1 M5 hp0) zmd_X10_spanKnown zwI_X10_spanKnown zwS_X10_spanKnown zwM_RX10_310 zcd_10 hp0 rfl (by decide) rfl (Nat.le_of_ble_eq_true rfl) dX10_held_47 (fun M7 v6 _ => ?_))
      refine zv_istore_p (L' := [(4, iv v6), (0, rn w p0), (1, iv p1), (2, iv p2), (3, iv p3)]) dX10_held_50 (by decide) rfl ?_
      refine zv_rload_n dX10_held_52 1 rfl ?_
      refine zg_RX10_42 dX10_held_53 hp0 ?_
      refine zv_iload dX10_held_56 0 rfl ?_
      refine zv_iload_n dX10_held_58 3 rfl ?_
      refine zv_iconst (z := 1) dX10_held_59 ?_
      refine zv_isub dX10_held_60 ?_
      refine (zv_callVi [iv v6, iv (p2 - 1)] (c_X4_ranked κ.2.1 hw (zfr w.1 p0 5) v6 (p2 - 1) M7 (zta_10_5 hT hp0)) zmd_X4_ranked zwI_X4_ranked zwS_X4_ranked zwM_RX10_313 zcd_4 (zta_10_5 hT hp0) rfl (by decide) rfl (Nat.le_of_ble_eq_true rfl) dX10_held_61 (fun M9 v8 _ => ?_))
      refine zv_istore_p (L' := [(5, iv v8), (4, iv v6), (0, rn w p0), (1, iv p1), (2, iv p2), (3, iv p3)]) dX10_held_64 (by decide) rfl ?_
      refine zv_iconst (z := 0) dX10_held_66 ?_
      refine zv_istore_p (L' := [(6, iv 0), (5, iv v8), (4, iv v6), (0, rn w p0), (1, iv p1), (2, iv p2), (3, iv p3)]) dX10_held_67 (by decide) rfl ?_
      refine zv_iconst (z := 0) dX10_held_69 ?_
      refine zv_istore_p (L' := [(7, iv 0), (6, iv 0), (5, iv v8), (4, iv v6), (0, rn w p0), (1, iv p1), (2, iv p2), (3, iv p3)]) dX10_held_70 (by decide) rfl ?_
      refine zv_join1 117 (fun x15 => [(6, iv x15)]) (fun x15 => []) (fun x15 => M9) (zv_sub (L' := [(6, iv 0), (7, iv 0), (0, rn w p0), (4, iv v6), (5, iv v8)]) [1, 0, 4, 3, 2] rfl (vl_X10_held_72 hw p0 v6 v8 hp0 M9 _ (fun _ h => h) 0 0)) (fun x15 => ?_)
      refine zv_iload dX10_held_117 0 rfl ?_
      exact zv_ret (fun h => h) (zv_iret dX10_held_119)
    refine zv_rload_n dX10_held_33 0 rfl ?_
    refine zg_RX10_19 dX10_held_34 hp0 ?_
    refine zg_RX10_148 dX10_held_37 (zta_10_1 hT hp0) ?_
    exact zv_ret (fun h => h) (zv_iret dX10_held_40)
  refine zv_iconst (z := (-1)) dX10_held_26 ?_
  exact zv_ret (fun h => h) (zv_iret dX10_held_27)
def f_X7_take (k : zK)  (p0 : Nat) (p1 : Nat) (M0 : zM) : Option zM :=
  zgd (0 ≤ (256 : Int) ∧ (256 : Int) ≤ 256 ∧ (256 : Int) ≤ 256) (zlt (zcp M0 (zfr k p1 0) (zfr k p0 0) (Int.toNat 256)) (fun M1 => zgd (0 ≤ (256 : Int) ∧ (256 : Int) ≤ 256 ∧ (256 : Int) ≤ 256) (zlt (zcp M1 (zfr k p1 1) (zfr k p0 1) (Int.toNat 256)) (fun M2 => zgd (0 ≤ (256 : Int) ∧ (256 : Int) ≤ 256 ∧ (256 : Int) ≤ 256) (zlt (zcp M2 (zfr k p1 2) (zfr k p0 2) (Int.toNat 256)) (fun M3 => zgd (0 ≤ (256 : Int) ∧ (256 : Int) ≤ 256 ∧ (256 : Int) ≤ 256) (zlt (zcp M3 (zfr k p1 3) (zfr k p0 3) (Int.toNat 256)) (fun M4 => zgd (0 ≤ (16 : Int) ∧ (16 : Int) ≤ 16 ∧ (16 : Int) ≤ 16) (zlt (zcp M4 (zfr k p1 4) (zfr k p0 4) (Int.toNat 16)) (fun M5 => zgd (0 ≤ (16 : Int) ∧ (16 : Int) ≤ 16 ∧ (16 : Int) ≤ 16) (zlt (zcp M5 (zfr k p1 5) (zfr k p0 5) (Int.toNat 16)) (fun M6 => zgd (0 ≤ (60 : Int) ∧ (60 : Int) ≤ 60 ∧ (60 : Int) ≤ 60) (zlt (zcp M6 (zfr k p1 6) (zfr k p0 6) (Int.toNat 60)) (fun M7 => zgd (0 ≤ (60 : Int) ∧ (60 : Int) ≤ 60 ∧ (60 : Int) ≤ 60) (zlt (zcp M7 (zfr k p1 7) (zfr k p0 7) (Int.toNat 60)) (fun M8 => zgd (0 ≤ (60 : Int) ∧ (60 : Int) ≤ 60 ∧ (60 : Int) ≤ 60) (zlt (zcp M8 (zfr k p1 8) (zfr k p0 8) (Int.toNat 60)) (fun M9 => zgd (0 ≤ (60 : Int) ∧ (60 : Int) ≤ 60 ∧ (60 : Int) ≤ 60) (zlt (zcp M9 (zfr k p1 9) (zfr k p0 9) (Int.toNat 60)) (fun M10 => zgd (0 ≤ (10 : Int) ∧ (10 : Int) ≤ 10 ∧ (10 : Int) ≤ 10) (zlt (zcp M10 (zfr k p1 10) (zfr k p0 10) (Int.toNat 10)) (fun M11 => zgd (0 ≤ (40 : Int) ∧ (40 : Int) ≤ 40 ∧ (40 : Int) ≤ 40) (zlt (zcp M11 (zfr k p1 11) (zfr k p0 11) (Int.toNat 40)) (fun M12 => zgd (0 ≤ (40 : Int) ∧ (40 : Int) ≤ 40 ∧ (40 : Int) ≤ 40) (zlt (zcp M12 (zfr k p1 12) (zfr k p0 12) (Int.toNat 40)) (fun M13 => zgd (0 ≤ (40 : Int) ∧ (40 : Int) ≤ 40 ∧ (40 : Int) ≤ 40) (zlt (zcp M13 (zfr k p1 13) (zfr k p0 13) (Int.toNat 40)) (fun M14 => zgd (0 ≤ (40 : Int) ∧ (40 : Int) ≤ 40 ∧ (40 : Int) ≤ 40) (zlt (zcp M14 (zfr k p1 14) (zfr k p0 14) (Int.toNat 40)) (fun M15 => zlt (zst M15 p0 15 (M15 p1 15)) (fun M16 => zlt (zst M16 p0 16 (M16 p1 16)) (fun M17 => zlt (zst M17 p0 17 (M17 p1 17)) (fun M18 => zlt (zst M18 p0 18 (M18 p1 18)) (fun M19 => zlt (zst M19 p0 19 (M19 p1 19)) (fun M20 => some M20)))))))))))))))))))))))))))))))))))
set_option maxRecDepth 20000 in
theorem c_X7_take (l : Launch) {w : zW} (hw : zWk w)  (p0 : Nat) (p1 : Nat) (M0 : zM) (hp0 : ztag w.1 p0 = 8) (hp1 : ztag w.1 p1 = 8) : zCn l yX7_take cX7_take 2 none (1) 0 w [rn w p0, rn w p1] M0 ((f_X7_take w.1 p0 p1 M0).map fun m => (m, (0 : Int))) := by
  have hT := hw.1
  refine zCn_ofV (own := RX7) (by decide) rfl hw (Nat.le_of_ble_eq_true rfl) [(0, rn w p0), (1, rn w p1)] rfl ?_
  intro κ hl
  subst hl
  unfold f_X7_take
  refine zv_rload_n dX7_take_0 1 rfl ?_
  refine zg_RX7_9 dX7_take_1 hp1 ?_
  refine zv_iconst (z := 0) dX7_take_4 ?_
  refine zv_rload_n dX7_take_5 0 rfl ?_
  refine zg_RX7_9 dX7_take_6 hp0 ?_
  refine zv_iconst (z := 0) dX7_take_9 ?_
  refine zv_sipush (z := 256) dX7_take_10 (by decide) ?_
  refine zv_copy zwM_RX7_79 (by decide) (Nat.le_of_ble_eq_true rfl) (zta_7_0 hT hp1) (zta_7_0 hT hp0) (ztl_7_0 hT hp1) (ztl_7_0 hT hp0) (by decide) dX7_take_13 (fun M1 => ?_)
  refine zv_rload_n dX7_take_16 1 rfl ?_
  refine zg_RX7_15 dX7_take_17 hp1 ?_
  refine zv_iconst (z := 0) dX7_take_20 ?_
  refine zv_rload_n dX7_take_21 0 rfl ?_
  refine zg_RX7_15 dX7_take_22 hp0 ?_
  refine zv_iconst (z := 0) dX7_take_25 ?_
  refine zv_sipush (z := 256) dX7_take_26 (by decide) ?_
  refine zv_copy zwM_RX7_79 (by decide) (Nat.le_of_ble_eq_true rfl) (zta_7_1 hT hp1) (zta_7_1 hT hp0) (ztl_7_1 hT hp1) (ztl_7_1 hT hp0) (by decide) dX7_take_29 (fun M2 => ?_)
  refine zv_rload_n dX7_take_32 1 rfl ?_
  refine zg_RX7_18 dX7_take_33 hp1 ?_
  refine zv_iconst (z := 0) dX7_take_36 ?_
  refine zv_rload_n dX7_take_37 0 rfl ?_
  refine zg_RX7_18 dX7_take_38 hp0 ?_
  refine zv_iconst (z := 0) dX7_take_41 ?_
  refine zv_sipush (z := 256) dX7_take_42 (by decide) ?_
  refine zv_copy zwM_RX7_79 (by decide) (Nat.le_of_ble_eq_true rfl) (zta_7_2 hT hp1) (zta_7_2 hT hp0) (ztl_7_2 hT hp1) (ztl_7_2 hT hp0) (by decide) dX7_take_45 (fun M3 => ?_)
  refine zv_rload_n dX7_take_48 1 rfl ?_
  refine zg_RX7_21 dX7_take_49 hp1 ?_
  refine zv_iconst (z := 0) dX7_take_52 ?_
  refine zv_rload_n dX7_take_53 0 rfl ?_
  refine zg_RX7_21 dX7_take_54 hp0 ?_
  refine zv_iconst (z := 0) dX7_take_57 ?_
  refine zv_sipush (z := 256) dX7_take_58 (by decide) ?_
  refine zv_copy zwM_RX7_79 (by decide) (Nat.le_of_ble_eq_true rfl) (zta_7_3 hT hp1) (zta_7_3 hT hp0) (ztl_7_3 hT hp1) (ztl_7_3 hT hp0) (by decide) dX7_take_61 (fun M4 => ?_)
  refine zv_rload_n dX7_take_64 1 rfl ?_
  refine zg_RX7_24 dX7_take_65 hp1 ?_
  refine zv_iconst (z := 0) dX7_take_68 ?_
  refine zv_rload_n dX7_take_69 0 rfl ?_
  refine zg_RX7_24 dX7_take_70 hp0 ?_
  refine zv_iconst (z := 0) dX7_take_73 ?_
  refine zv_bipush (z := 16) dX7_take_74 (by decide) ?_
  refine zv_copy zwM_RX7_79 (by decide) (Nat.le_of_ble_eq_true rfl) (zta_7_4 hT hp1) (zta_7_4 hT hp0) (ztl_7_4 hT hp1) (ztl_7_4 hT hp0) (by decide) dX7_take_76 (fun M5 => ?_)
  refine zv_rload_n dX7_take_79 1 rfl ?_
  refine zg_RX7_27 dX7_take_80 hp1 ?_
  refine zv_iconst (z := 0) dX7_take_83 ?_
  refine zv_rload_n dX7_take_84 0 rfl ?_
  refine zg_RX7_27 dX7_take_85 hp0 ?_
  refine zv_iconst (z := 0) dX7_take_88 ?_
  refine zv_bipush (z := 16) dX7_take_89 (by decide) ?_
  refine zv_copy zwM_RX7_79 (by decide) (Nat.le_of_ble_eq_true rfl) (zta_7_5 hT hp1) (zta_7_5 hT hp0) (ztl_7_5 hT hp1) (ztl_7_5 hT hp0) (by decide) dX7_take_91 (fun M6 => ?_)
  refine zv_rload_n dX7_take_94 1 rfl ?_
  refine zg_RX7_30 dX7_take_95 hp1 ?_
  refine zv_iconst (z := 0) dX7_take_98 ?_
  refine zv_rload_n dX7_take_99 0 rfl ?_
  refine zg_RX7_30 dX7_take_100 hp0 ?_
  refine zv_iconst (z := 0) dX7_take_103 ?_
  refine zv_bipush (z := 60) dX7_take_104 (by decide) ?_
  refine zv_copy zwM_RX7_79 (by decide) (Nat.le_of_ble_eq_true rfl) (zta_7_6 hT hp1) (zta_7_6 hT hp0) (ztl_7_6 hT hp1) (ztl_7_6 hT hp0) (by decide) dX7_take_106 (fun M7 => ?_)
  refine zv_rload_n dX7_take_109 1 rfl ?_
  refine zg_RX7_33 dX7_take_110 hp1 ?_
  refine zv_iconst (z := 0) dX7_take_113 ?_
  refine zv_rload_n dX7_take_114 0 rfl ?_
  refine zg_RX7_33 dX7_take_115 hp0 ?_
  refine zv_iconst (z := 0) dX7_take_118 ?_
  refine zv_bipush (z := 60) dX7_take_119 (by decide) ?_
  refine zv_copy zwM_RX7_79 (by decide) (Nat.le_of_ble_eq_true rfl) (zta_7_7 hT hp1) (zta_7_7 hT hp0) (ztl_7_7 hT hp1) (ztl_7_7 hT hp0) (by decide) dX7_take_121 (fun M8 => ?_)
  refine zv_rload_n dX7_take_124 1 rfl ?_
  refine zg_RX7_36 dX7_take_125 hp1 ?_
  refine zv_iconst (z := 0) dX7_take_128 ?_
  refine zv_rload_n dX7_take_129 0 rfl ?_
  refine zg_RX7_36 dX7_take_130 hp0 ?_
  refine zv_iconst (z := 0) dX7_take_133 ?_
  refine zv_bipush (z := 60) dX7_take_134 (by decide) ?_
  refine zv_copy zwM_RX7_79 (by decide) (Nat.le_of_ble_eq_true rfl) (zta_7_8 hT hp1) (zta_7_8 hT hp0) (ztl_7_8 hT hp1) (ztl_7_8 hT hp0) (by decide) dX7_take_136 (fun M9 => ?_)
  refine zv_rload_n dX7_take_139 1 rfl ?_
  refine zg_RX7_39 dX7_take_140 hp1 ?_
  refine zv_iconst (z := 0) dX7_take_143 ?_
  refine zv_rload_n dX7_take_144 0 rfl ?_
  refine zg_RX7_39 dX7_take_145 hp0 ?_
  refine zv_iconst (z := 0) dX7_take_148 ?_
  refine zv_bipush (z := 60) dX7_take_149 (by decide) ?_
  refine zv_copy zwM_RX7_79 (by decide) (Nat.le_of_ble_eq_true rfl) (zta_7_9 hT hp1) (zta_7_9 hT hp0) (ztl_7_9 hT hp1) (ztl_7_9 hT hp0) (by decide) dX7_take_151 (fun M10 => ?_)
  refine zv_rload_n dX7_take_154 1 rfl ?_
  refine zg_RX7_42 dX7_take_155 hp1 ?_
  refine zv_iconst (z := 0) dX7_take_158 ?_
  refine zv_rload_n dX7_take_159 0 rfl ?_
  refine zg_RX7_42 dX7_take_160 hp0 ?_
  refine zv_iconst (z := 0) dX7_take_163 ?_
  refine zv_bipush (z := 10) dX7_take_164 (by decide) ?_
  refine zv_copy zwM_RX7_79 (by decide) (Nat.le_of_ble_eq_true rfl) (zta_7_10 hT hp1) (zta_7_10 hT hp0) (ztl_7_10 hT hp1) (ztl_7_10 hT hp0) (by decide) dX7_take_166 (fun M11 => ?_)
  refine zv_rload_n dX7_take_169 1 rfl ?_
  refine zg_RX7_45 dX7_take_170 hp1 ?_
  refine zv_iconst (z := 0) dX7_take_173 ?_
  refine zv_rload_n dX7_take_174 0 rfl ?_
  refine zg_RX7_45 dX7_take_175 hp0 ?_
  refine zv_iconst (z := 0) dX7_take_178 ?_
  refine zv_bipush (z := 40) dX7_take_179 (by decide) ?_
  refine zv_copy zwM_RX7_79 (by decide) (Nat.le_of_ble_eq_true rfl) (zta_7_11 hT hp1) (zta_7_11 hT hp0) (ztl_7_11 hT hp1) (ztl_7_11 hT hp0) (by decide) dX7_take_181 (fun M12 => ?_)
  refine zv_rload_n dX7_take_184 1 rfl ?_
  refine zg_RX7_48 dX7_take_185 hp1 ?_
  refine zv_iconst (z := 0) dX7_take_188 ?_
  refine zv_rload_n dX7_take_189 0 rfl ?_
  refine zg_RX7_48 dX7_take_190 hp0 ?_
  refine zv_iconst (z := 0) dX7_take_193 ?_
  refine zv_bipush (z := 40) dX7_take_194 (by decide) ?_
  refine zv_copy zwM_RX7_79 (by decide) (Nat.le_of_ble_eq_true rfl) (zta_7_12 hT hp1) (zta_7_12 hT hp0) (ztl_7_12 hT hp1) (ztl_7_12 hT hp0) (by decide) dX7_take_196 (fun M13 => ?_)
  refine zv_rload_n dX7_take_199 1 rfl ?_
  refine zg_RX7_51 dX7_take_200 hp1 ?_
  refine zv_iconst (z := 0) dX7_take_203 ?_
  refine zv_rload_n dX7_take_204 0 rfl ?_
  refine zg_RX7_51 dX7_take_205 hp0 ?_
  refine zv_iconst (z := 0) dX7_take_208 ?_
  refine zv_bipush (z := 40) dX7_take_209 (by decide) ?_
  refine zv_copy zwM_RX7_79 (by decide) (Nat.le_of_ble_eq_true rfl) (zta_7_13 hT hp1) (zta_7_13 hT hp0) (ztl_7_13 hT hp1) (ztl_7_13 hT hp0) (by decide) dX7_take_211 (fun M14 => ?_)
  refine zv_rload_n dX7_take_214 1 rfl ?_
  refine zg_RX7_54 dX7_take_215 hp1 ?_
  refine zv_iconst (z := 0) dX7_take_218 ?_
  refine zv_rload_n dX7_take_219 0 rfl ?_
  refine zg_RX7_54 dX7_take_220 hp0 ?_
  refine zv_iconst (z := 0) dX7_take_223 ?_
  refine zv_bipush (z := 40) dX7_take_224 (by decide) ?_
  refine zv_copy zwM_RX7_79 (by decide) (Nat.le_of_ble_eq_true rfl) (zta_7_14 hT hp1) (zta_7_14 hT hp0) (ztl_7_14 hT hp1) (ztl_7_14 hT hp0) (by decide) dX7_take_226 (fun M15 => ?_)
  refine zv_rload_n dX7_take_229 0 rfl ?_
  refine zv_rload_n dX7_take_230 1 rfl ?_
  refine zg_RX7_57 dX7_take_231 hp1 ?_
  refine zp_RX7_57 dX7_take_234 hp0 (fun M16 => ?_)
  refine zv_rload_n dX7_take_237 0 rfl ?_
  refine zv_rload_n dX7_take_238 1 rfl ?_
  refine zg_RX7_61 dX7_take_239 hp1 ?_
  refine zp_RX7_61 dX7_take_242 hp0 (fun M17 => ?_)
  refine zv_rload_n dX7_take_245 0 rfl ?_
  refine zv_rload_n dX7_take_246 1 rfl ?_
  refine zg_RX7_64 dX7_take_247 hp1 ?_
  refine zp_RX7_64 dX7_take_250 hp0 (fun M18 => ?_)
  refine zv_rload_n dX7_take_253 0 rfl ?_
  refine zv_rload_n dX7_take_254 1 rfl ?_
  refine zg_RX7_67 dX7_take_255 hp1 ?_
  refine zp_RX7_67 dX7_take_258 hp0 (fun M19 => ?_)
  refine zv_rload_n dX7_take_261 0 rfl ?_
  refine zv_rload_n dX7_take_262 1 rfl ?_
  refine zg_RX7_70 dX7_take_263 hp1 ?_
  refine zp_RX7_70 dX7_take_266 hp0 (fun M20 => ?_)
  exact zv_ret (fun h => h) (zv_vret (v := 0) dX7_take_269)
def f_X10_isHeight (k : zK)  (p0 : Int) (M0 : zM) : Option Int :=
  zbr p0 0 (p0 < 0) (some 0) (zbr p0 99 (99 < p0) (some 0) (some 1))
theorem c_X10_isHeight (l : Launch) {w : zW} (hw : zWk w)  (p0 : Int) (M0 : zM)  : zCn l yX10_isHeight cX10_isHeight 1 (some .boolean) (0) 1 w [iv p0] M0 ((f_X10_isHeight w.1 p0 M0).map fun v => (M0, v)) := by
  have hT := hw.1
  refine zCn_ofP (own := RX10) (by decide) rfl hw (Nat.le_of_ble_eq_true rfl) [(0, iv p0)] rfl ?_
  intro κ hl
  subst hl
  unfold f_X10_isHeight
  refine zv_iload_n dX10_isHeight_0 0 rfl ?_
  refine zv_if_lt (tgt := 14) dX10_isHeight_1 (by decide) ?_ ?_
  · refine zv_iconst (z := 0) dX10_isHeight_14 ?_
    exact zv_ret (fun h => h) (zv_zrB (by decide) dX10_isHeight_15)
  refine zv_iload_n dX10_isHeight_4 0 rfl ?_
  refine zv_bipush (z := 99) dX10_isHeight_5 (by decide) ?_
  refine zv_icmp_gt (tgt := 14) dX10_isHeight_7 (by decide) ?_ ?_
  · refine zv_iconst (z := 0) dX10_isHeight_14 ?_
    exact zv_ret (fun h => h) (zv_zrB (by decide) dX10_isHeight_15)
  refine zv_iconst (z := 1) dX10_isHeight_10 ?_
  refine zv_goto (tgt := 15) dX10_isHeight_11 (by decide) ?_
  exact zv_ret (fun h => h) (zv_zrB (by decide) dX10_isHeight_15)
def fb_X3_clear_30 (k : zK)  (l0 : Nat) (y1 : Int) (M0 : zM) : Option ((Int × zM) ⊕ (zM)) :=
  zbr y1 100 (100 ≤ y1) (some (.inr M0)) (zgd (((0 : Int) = 0 ∨ (0 : Int) = 1) ∧ 0 ≤ y1 ∧ y1 < 100) (zlt (zst M0 (zfr k l0 10) y1.toNat (0)) (fun M6 => zgd (((0 : Int) = 0 ∨ (0 : Int) = 1) ∧ 0 ≤ y1 ∧ y1 < 100) (zlt (zst M6 (zfr k l0 11) y1.toNat (0)) (fun M7 => zlt (y1 + 1) (fun x8 => some (.inl (x8, M7))))))))
def f_X3_clear (k : zK)  (p0 : Nat) (M0 : zM) : Option zM :=
  zlt (zst M0 p0 0 0) (fun M1 => zlt (zst M1 p0 1 0) (fun M2 => zlt (zst M2 p0 7 0) (fun M3 => zlt (zst M3 p0 13 0) (fun M4 => zb1 (f_J7_fill_53178 k (zfr k p0 14) 0 M4) (fun M5 => zb1 (zw2 (fb_X3_clear_30 k p0) zfu 0 M5) (fun M9 => some M9))))))
theorem vl_X3_clear_30 {κ : zC} {w : zW} (hw : zWk w)  (l0 : Nat) (g0 : ztag w.1 l0 = 4)  (E : (zM) → Prop) (hX : ∀  (M1 : zM), E M1 → zB cX3_clear RX3 2 none κ w (0, 0, 1) 56 [] [] M1)  (y1 : Int) (M0 : zM) :
    zV cX3_clear RX3 2 none κ w (0, 0, 1) 30 [(1, iv y1), (0, rn w l0)] [] M0 (zw2 (fb_X3_clear_30 w.1 l0) zfu y1 M0) E := by
  have hT := hw.1
  refine zv_loop2 (fun y1 M0 => [(1, iv y1), (0, rn w l0)]) (fun y1 M0 => M0) (fun y1 M0 => ?_) y1 M0
  unfold fb_X3_clear_30
  refine zv_iload_n dX3_clear_30 0 rfl ?_
  refine zv_bipush (z := 100) dX3_clear_31 (by decide) ?_
  refine zv_icmp_ge (tgt := 56) dX3_clear_33 (by decide) ?_ ?_
  · exact zv_sub (L' := []) [] rfl (zv_exit (fun h => hX _ h))
  refine zv_rload_n dX3_clear_36 1 rfl ?_
  refine zg_RX3_43 dX3_clear_37 g0 ?_
  refine zv_iload_n dX3_clear_40 0 rfl ?_
  refine zv_iconst (z := 0) dX3_clear_41 ?_
  refine zv_zast dX3_clear_42 (zta_3_10 hT g0) (ztl_3_10 hT g0) (by decide) (fun M6 => ?_)
  refine zv_rload_n dX3_clear_43 1 rfl ?_
  refine zg_RX3_47 dX3_clear_44 g0 ?_
  refine zv_iload_n dX3_clear_47 0 rfl ?_
  refine zv_iconst (z := 0) dX3_clear_48 ?_
  refine zv_zast dX3_clear_49 (zta_3_11 hT g0) (ztl_3_11 hT g0) (by decide) (fun M7 => ?_)
  refine zv_iinc dX3_clear_50 0 rfl (fun x8 => [(1, iv x8), (0, rn w l0)]) (by decide) (fun _ => rfl) (fun x8 => ?_)
  refine zv_goto (tgt := 30) dX3_clear_53 (by decide) ?_
  exact zv_sub (L' := [(1, iv x8), (0, rn w l0)]) [0, 1] rfl (zv_exit (fun h => h))
theorem c_X3_clear (l : Launch) {w : zW} (hw : zWk w)  (p0 : Nat) (M0 : zM) (hp0 : ztag w.1 p0 = 4) : zCn l yX3_clear cX3_clear 2 none (1) 0 w [rn w p0] M0 ((f_X3_clear w.1 p0 M0).map fun m => (m, (0 : Int))) := by
  have hT := hw.1
  refine zCn_ofV (own := RX3) (by decide) rfl hw (Nat.le_of_ble_eq_true rfl) [(0, rn w p0)] rfl ?_
  intro κ hl
  subst hl
  unfold f_X3_clear
  refine zv_rload_n dX3_clear_0 0 rfl ?_
  refine zv_iconst (z := 0) dX3_clear_1 ?_
  refine zp_RX3_9 dX3_clear_2 hp0 (fun M1 => ?_)
  refine zv_rload_n dX3_clear_5 0 rfl ?_
  refine zv_iconst (z := 0) dX3_clear_6 ?_
  refine zp_RX3_15 dX3_clear_7 hp0 (fun M2 => ?_)
  refine zv_rload_n dX3_clear_10 0 rfl ?_
  refine zv_iconst (z := 0) dX3_clear_11 ?_
  refine zp_RX3_34 dX3_clear_12 hp0 (fun M3 => ?_)
  refine zv_rload_n dX3_clear_15 0 rfl ?_
  refine zv_iconst (z := 0) dX3_clear_16 ?_
  refine zp_RX3_53 dX3_clear_17 hp0 (fun M4 => ?_)
  refine zv_rload_n dX3_clear_20 0 rfl ?_
  refine zg_RX3_56 dX3_clear_21 hp0 ?_
  refine zv_iconst (z := 0) dX3_clear_24 ?_
  refine zv_vc (zv_callSv [rn w (zfr w.1 p0 14), iv 0] (c_J7_fill_53178 κ.2.1 hw (zfr w.1 p0 14) 0 M4 (zta_3_14 hT hp0) (ztl_3_14 hT hp0)) zmd_J7_fill_53178 zwT_J7_fill_53178 zwM_RX3_59 rfl (by decide) rfl (Nat.le_of_ble_eq_true rfl) dX3_clear_25 (fun M5 _ _ => ?_))
  refine zv_iconst (z := 0) dX3_clear_28 ?_
  refine zv_istore_np (L' := [(1, iv 0), (0, rn w p0)]) (by rfl) dX3_clear_29 (by decide) rfl ?_
  refine zv_join1 56 (fun M9 => []) (fun M9 => []) (fun M9 => M9) (zv_sub (L' := [(1, iv 0), (0, rn w p0)]) [0, 1] rfl (vl_X3_clear_30 hw p0 hp0 _ (fun _ h => h) 0 M5)) (fun M9 => ?_)
  exact zv_ret (fun h => h) (zv_vret (v := 0) dX3_clear_56)
def fb_X3_finish_9 (k : zK)  (l0 : Nat) (y1 : Int) (y2 : Int) (y3 : Int) (y4 : Int) (M0 : zM) : Option ((Int × Int × Int × Int × zM) ⊕ (zM)) :=
  zbr y4 100 (100 ≤ y4) (some (.inr M0)) (zgd (0 ≤ y4 ∧ y4 < 100) (zb2 (zbr (M0 (zfr k l0 10) y4.toNat) 0 (M0 (zfr k l0 10) y4.toNat = 0) (some (y1, y2)) (zgd (0 ≤ y4 ∧ y4 < 100) (zlt (M0 (zfr k l0 8) y4.toNat) (fun x1 => zgd (0 ≤ y4 ∧ y4 < 100) (zlt (M0 (zfr k l0 9) y4.toNat) (fun x2 => some (x1, x2))))))) (fun x3 x4 => zgd (0 ≤ y4 ∧ y4 < 100) (zlt (zst M0 (zfr k l0 8) y4.toNat (x3)) (fun M5 => zgd (0 ≤ y4 ∧ y4 < 100) (zlt (zst M5 (zfr k l0 9) y4.toNat (x4)) (fun M6 => zgd (0 ≤ y4 ∧ y4 < 100) (zb1 (zbr (M6 (zfr k l0 11) y4.toNat) 0 (M6 (zfr k l0 11) y4.toNat = 0) (some (y3)) (some (y4))) (fun x7 => zgd (0 ≤ y4 ∧ y4 < 100) (zlt (zst M6 (zfr k l0 12) y4.toNat (x7)) (fun M8 => zlt (y4 + 1) (fun x9 => some (.inl (x3, x4, x7, x9, M8))))))))))))))
def f_X3_finish (k : zK)  (p0 : Nat) (M0 : zM) : Option zM :=
  zb1 (zw5 (fb_X3_finish_9 k p0) zfu 0 0 0 0 M0) (fun M10 => some M10)
theorem vl_X3_finish_9 {κ : zC} {w : zW} (hw : zWk w)  (l0 : Nat) (g0 : ztag w.1 l0 = 4)  (E : (zM) → Prop) (hX : ∀  (M1 : zM), E M1 → zB cX3_finish RX3 5 none κ w (0, 0, 0) 89 [] [] M1)  (y1 : Int) (y2 : Int) (y3 : Int) (y4 : Int) (M0 : zM) :
    zV cX3_finish RX3 5 none κ w (0, 0, 0) 9 [(1, iv y1), (2, iv y2), (3, iv y3), (4, iv y4), (0, rn w l0)] [] M0 (zw5 (fb_X3_finish_9 w.1 l0) zfu y1 y2 y3 y4 M0) E := by
  have hT := hw.1
  refine zv_loop5 (fun y1 y2 y3 y4 M0 => [(1, iv y1), (2, iv y2), (3, iv y3), (4, iv y4), (0, rn w l0)]) (fun y1 y2 y3 y4 M0 => M0) (fun y1 y2 y3 y4 M0 => ?_) y1 y2 y3 y4 M0
  unfold fb_X3_finish_9
  refine zv_iload dX3_finish_9 3 rfl ?_
  refine zv_bipush (z := 100) dX3_finish_11 (by decide) ?_
  refine zv_icmp_ge (tgt := 89) dX3_finish_13 (by decide) ?_ ?_
  · exact zv_sub (L' := []) [] rfl (zv_exit (fun h => hX _ h))
  refine zv_rload_n dX3_finish_16 4 rfl ?_
  refine zg_RX3_43 dX3_finish_17 g0 ?_
  refine zv_iload dX3_finish_20 3 rfl ?_
  refine zv_zald dX3_finish_22 (zta_3_10 hT g0) (ztl_3_10 hT g0) (by decide) ?_
  refine zv_join2 42 (fun x3 x4 => [(1, iv x3), (2, iv x4), (3, iv y3), (4, iv y4), (0, rn w l0)]) (fun x3 x4 => []) (fun x3 x4 => M0) ?_ (fun x3 x4 => ?_)
  · refine zv_if_eq (tgt := 42) dX3_finish_23 (by decide) ?_ ?_
    · exact zv_sub (L' := [(1, iv y1), (2, iv y2), (3, iv y3), (4, iv y4), (0, rn w l0)]) [0, 1, 2, 3, 4] rfl (zv_exit (fun h => h))
    refine zv_rload_n dX3_finish_26 4 rfl ?_
    refine zg_RX3_37 dX3_finish_27 g0 ?_
    refine zv_iload dX3_finish_30 3 rfl ?_
    refine zv_iald dX3_finish_32 (zta_3_8 hT g0) (ztl_3_8 hT g0) (by decide) ?_
    refine zv_istore_n (i := 1) (by rfl) dX3_finish_33 (fun x1 => [(1, iv x1), (2, iv y2), (3, iv y3), (4, iv y4), (0, rn w l0)]) (by decide) (fun _ => rfl) (fun x1 => ?_)
    refine zv_rload_n dX3_finish_34 4 rfl ?_
    refine zg_RX3_40 dX3_finish_35 g0 ?_
    refine zv_iload dX3_finish_38 3 rfl ?_
    refine zv_iald dX3_finish_40 (zta_3_9 hT g0) (ztl_3_9 hT g0) (by decide) ?_
    refine zv_istore_n (i := 2) (by rfl) dX3_finish_41 (fun x2 => [(2, iv x2), (1, iv x1), (3, iv y3), (4, iv y4), (0, rn w l0)]) (by decide) (fun _ => rfl) (fun x2 => ?_)
    exact zv_sub (L' := [(1, iv x1), (2, iv x2), (3, iv y3), (4, iv y4), (0, rn w l0)]) [1, 0, 2, 3, 4] rfl (zv_exit (fun h => h))
  refine zv_rload_n dX3_finish_42 4 rfl ?_
  refine zg_RX3_37 dX3_finish_43 g0 ?_
  refine zv_iload dX3_finish_46 3 rfl ?_
  refine zv_iload_n dX3_finish_48 0 rfl ?_
  refine zv_iast dX3_finish_49 (zta_3_8 hT g0) (ztl_3_8 hT g0) (by decide) (fun M5 => ?_)
  refine zv_rload_n dX3_finish_50 4 rfl ?_
  refine zg_RX3_40 dX3_finish_51 g0 ?_
  refine zv_iload dX3_finish_54 3 rfl ?_
  refine zv_iload_n dX3_finish_56 1 rfl ?_
  refine zv_iast dX3_finish_57 (zta_3_9 hT g0) (ztl_3_9 hT g0) (by decide) (fun M6 => ?_)
  refine zv_rload_n dX3_finish_58 4 rfl ?_
  refine zg_RX3_47 dX3_finish_59 g0 ?_
  refine zv_iload dX3_finish_62 3 rfl ?_
  refine zv_zald dX3_finish_64 (zta_3_11 hT g0) (ztl_3_11 hT g0) (by decide) ?_
  refine zv_join1 74 (fun x7 => [(1, iv x3), (2, iv x4), (4, iv y4), (0, rn w l0)]) (fun x7 => [iv x7]) (fun x7 => M6) ?_ (fun x7 => ?_)
  · refine zv_if_eq (tgt := 73) dX3_finish_65 (by decide) ?_ ?_
    · refine zv_iload_n dX3_finish_73 2 rfl ?_
      exact zv_sub (L' := [(1, iv x3), (2, iv x4), (4, iv y4), (0, rn w l0)]) [0, 1, 3, 4] rfl (zv_exit (fun h => h))
    refine zv_iload dX3_finish_68 3 rfl ?_
    refine zv_goto (tgt := 74) dX3_finish_70 (by decide) ?_
    exact zv_sub (L' := [(1, iv x3), (2, iv x4), (4, iv y4), (0, rn w l0)]) [0, 1, 3, 4] rfl (zv_exit (fun h => h))
  refine zv_istore_np (L' := [(3, iv x7), (1, iv x3), (2, iv x4), (4, iv y4), (0, rn w l0)]) (by rfl) dX3_finish_74 (by decide) rfl ?_
  refine zv_rload_n dX3_finish_75 4 rfl ?_
  refine zg_RX3_50 dX3_finish_76 g0 ?_
  refine zv_iload dX3_finish_79 3 rfl ?_
  refine zv_iload_n dX3_finish_81 0 rfl ?_
  refine zv_iast dX3_finish_82 (zta_3_12 hT g0) (ztl_3_12 hT g0) (by decide) (fun M8 => ?_)
  refine zv_iinc dX3_finish_83 3 rfl (fun x9 => [(4, iv x9), (3, iv x7), (1, iv x3), (2, iv x4), (0, rn w l0)]) (by decide) (fun _ => rfl) (fun x9 => ?_)
  refine zv_goto (tgt := 9) dX3_finish_86 (by decide) ?_
  exact zv_sub (L' := [(1, iv x3), (2, iv x4), (3, iv x7), (4, iv x9), (0, rn w l0)]) [2, 3, 1, 0, 4] rfl (zv_exit (fun h => h))
theorem c_X3_finish (l : Launch) {w : zW} (hw : zWk w)  (p0 : Nat) (M0 : zM) (hp0 : ztag w.1 p0 = 4) : zCn l yX3_finish cX3_finish 5 none (0) 0 w [rn w p0] M0 ((f_X3_finish w.1 p0 M0).map fun m => (m, (0 : Int))) := by
  have hT := hw.1
  refine zCn_ofV (own := RX3) (by decide) rfl hw (Nat.le_of_ble_eq_true rfl) [(0, rn w p0)] rfl ?_
  intro κ hl
  subst hl
  unfold f_X3_finish
  refine zv_iconst (z := 0) dX3_finish_0 ?_
  refine zv_istore_np (L' := [(1, iv 0), (0, rn w p0)]) (by rfl) dX3_finish_1 (by decide) rfl ?_
  refine zv_iconst (z := 0) dX3_finish_2 ?_
  refine zv_istore_np (L' := [(2, iv 0), (1, iv 0), (0, rn w p0)]) (by rfl) dX3_finish_3 (by decide) rfl ?_
  refine zv_iconst (z := 0) dX3_finish_4 ?_
  refine zv_istore_np (L' := [(3, iv 0), (2, iv 0), (1, iv 0), (0, rn w p0)]) (by rfl) dX3_finish_5 (by decide) rfl ?_
  refine zv_iconst (z := 0) dX3_finish_6 ?_
  refine zv_istore_p (L' := [(4, iv 0), (3, iv 0), (2, iv 0), (1, iv 0), (0, rn w p0)]) dX3_finish_7 (by decide) rfl ?_
  refine zv_join1 89 (fun M10 => []) (fun M10 => []) (fun M10 => M10) (zv_sub (L' := [(1, iv 0), (2, iv 0), (3, iv 0), (4, iv 0), (0, rn w p0)]) [3, 2, 1, 0, 4] rfl (vl_X3_finish_9 hw p0 hp0 _ (fun _ h => h) 0 0 0 0 M0)) (fun M10 => ?_)
  exact zv_ret (fun h => h) (zv_vret (v := 0) dX3_finish_89)
def f_X3_putAsking (k : zK)  (p0 : Nat) (p1 : Int) (p2 : Int) (p3 : Int) (M0 : zM) : Option zM :=
  zbr (M0 p0 1) 40 (40 ≤ M0 p0 1) (some M0) (zgd (0 ≤ M0 p0 1 ∧ M0 p0 1 < 40) (zlt (zst M0 (zfr k p0 2) (M0 p0 1).toNat (p1)) (fun M1 => zgd (0 ≤ M1 p0 1 ∧ M1 p0 1 < 40) (zlt (zst M1 (zfr k p0 3) (M1 p0 1).toNat (p2)) (fun M2 => zgd (0 ≤ M2 p0 1 ∧ M2 p0 1 < 40) (zlt (zst M2 (zfr k p0 4) (M2 p0 1).toNat (p3)) (fun M3 => zgd (0 ≤ M3 p0 1 ∧ M3 p0 1 < 40) (zlt (zst M3 (zfr k p0 5) (M3 p0 1).toNat (M3 p0 7)) (fun M4 => zlt (zst M4 p0 1 ((M4 p0 1) + 1)) (fun M5 => some M5))))))))))
theorem c_X3_putAsking (l : Launch) {w : zW} (hw : zWk w)  (p0 : Nat) (p1 : Int) (p2 : Int) (p3 : Int) (M0 : zM) (hp0 : ztag w.1 p0 = 4) : zCn l yX3_putAsking cX3_putAsking 4 none (0) 0 w [rn w p0, iv p1, iv p2, iv p3] M0 ((f_X3_putAsking w.1 p0 p1 p2 p3 M0).map fun m => (m, (0 : Int))) := by
  have hT := hw.1
  refine zCn_ofV (own := RX3) (by decide) rfl hw (Nat.le_of_ble_eq_true rfl) [(0, rn w p0), (1, iv p1), (2, iv p2), (3, iv p3)] rfl ?_
  intro κ hl
  subst hl
  unfold f_X3_putAsking
  refine zv_rload_n dX3_putAsking_0 0 rfl ?_
  refine zg_RX3_15 dX3_putAsking_1 hp0 ?_
  refine zv_bipush (z := 40) dX3_putAsking_4 (by decide) ?_
  refine zv_icmp_ge (tgt := 62) dX3_putAsking_6 (by decide) ?_ ?_
  · exact zv_ret (fun h => h) (zv_vret (v := 0) dX3_putAsking_62)
  refine zv_rload_n dX3_putAsking_9 0 rfl ?_
  refine zg_RX3_18 dX3_putAsking_10 hp0 ?_
  refine zv_rload_n dX3_putAsking_13 0 rfl ?_
  refine zg_RX3_15 dX3_putAsking_14 hp0 ?_
  refine zv_iload_n dX3_putAsking_17 1 rfl ?_
  refine zv_iast dX3_putAsking_18 (zta_3_2 hT hp0) (ztl_3_2 hT hp0) (by decide) (fun M1 => ?_)
  refine zv_rload_n dX3_putAsking_19 0 rfl ?_
  refine zg_RX3_22 dX3_putAsking_20 hp0 ?_
  refine zv_rload_n dX3_putAsking_23 0 rfl ?_
  refine zg_RX3_15 dX3_putAsking_24 hp0 ?_
  refine zv_iload_n dX3_putAsking_27 2 rfl ?_
  refine zv_iast dX3_putAsking_28 (zta_3_3 hT hp0) (ztl_3_3 hT hp0) (by decide) (fun M2 => ?_)
  refine zv_rload_n dX3_putAsking_29 0 rfl ?_
  refine zg_RX3_25 dX3_putAsking_30 hp0 ?_
  refine zv_rload_n dX3_putAsking_33 0 rfl ?_
  refine zg_RX3_15 dX3_putAsking_34 hp0 ?_
  refine zv_iload_n dX3_putAsking_37 3 rfl ?_
  refine zv_iast dX3_putAsking_38 (zta_3_4 hT hp0) (ztl_3_4 hT hp0) (by decide) (fun M3 => ?_)
  refine zv_rload_n dX3_putAsking_39 0 rfl ?_
  refine zg_RX3_28 dX3_putAsking_40 hp0 ?_
  refine zv_rload_n dX3_putAsking_43 0 rfl ?_
  refine zg_RX3_15 dX3_putAsking_44 hp0 ?_
  refine zv_rload_n dX3_putAsking_47 0 rfl ?_
  refine zg_RX3_34 dX3_putAsking_48 hp0 ?_
  refine zv_iast dX3_putAsking_51 (zta_3_5 hT hp0) (ztl_3_5 hT hp0) (by decide) (fun M4 => ?_)
  refine zv_rload_n dX3_putAsking_52 0 rfl ?_
  refine zv_dup dX3_putAsking_53 rfl ?_
  refine zg_RX3_15 dX3_putAsking_54 hp0 ?_
  refine zv_iconst (z := 1) dX3_putAsking_57 ?_
  refine zv_iadd dX3_putAsking_58 ?_
  refine zp_RX3_15 dX3_putAsking_59 hp0 (fun M5 => ?_)
  exact zv_ret (fun h => h) (zv_vret (v := 0) dX3_putAsking_62)
def fb_X6_isWord_28 (k : zK)  (l0 : Nat) (l1 : Nat) (M0 : zM) (y2 : Int) : Option ((Int) ⊕ ((Unit) ⊕ Int)) :=
  zb1 (some (zsl_ l1)) (fun v3 => zbr y2 v3 (v3 ≤ y2) (some (.inr (.inl ()))) (zgd (0 ≤ (M0 l0 3) + y2 ∧ (M0 l0 3) + y2 < 700) (zb1 (f_J0_charAt l1 y2 M0) (fun v5 => zbr (M0 (zfr k l0 0) ((M0 l0 3) + y2).toNat) v5 (M0 (zfr k l0 0) ((M0 l0 3) + y2).toNat = v5) (zlt (y2 + 1) (fun x7 => some (.inl (x7)))) (some (.inr (.inr 0)))))))
def f_X6_isWord (k : zK)  (p0 : Nat) (p1 : Nat) (M0 : zM) : Option Int :=
  zbr (M0 p0 5) 1 (¬ M0 p0 5 = 1) (some 0) (zb1 (some (zsl_ p1)) (fun v1 => zbr ((M0 p0 4) - (M0 p0 3)) v1 ((M0 p0 4) - (M0 p0 3) = v1) (zsp0 (zw1 (fb_X6_isWord_28 k p0 p1 M0) zfu 0) (fun r => some ((r))) (some 1)) (some 0)))
theorem vl_X6_isWord_28 {κ : zC} {w : zW} (hw : zWk w)  (l0 : Nat) (l1 : Nat) (g0 : ztag w.1 l0 = 7) (g1 : l1 < zsn) (M0 : zM) (E : ((Unit) ⊕ Int) → Prop) (hX : E (.inl ()) → zB cX6_isWord RX6 3 (some .boolean) κ w (0, 0, 4) 63 [] [] M0) (hR : ∀ r, E (.inr r) → zRt κ w (0, 0, 4) 1 (M0, r)) (y2 : Int) :
    zV cX6_isWord RX6 3 (some .boolean) κ w (0, 0, 4) 28 [(2, iv y2), (0, rn w l0), (1, rn w (1000000 + l1))] [] M0 (zw1 (fb_X6_isWord_28 w.1 l0 l1 M0) zfu y2) E := by
  have hT := hw.1
  refine zv_loop1 (fun y2 => [(2, iv y2), (0, rn w l0), (1, rn w (1000000 + l1))]) (fun y2 => M0) (fun y2 => ?_) y2
  unfold fb_X6_isWord_28
  refine zv_iload_n dX6_isWord_28 0 rfl ?_
  refine zv_rload_n dX6_isWord_29 2 rfl ?_
  refine zv_pc (zv_callT [] g1 (c_J0_length κ.2.1 hw l1 M0 g1) zmd_J0_length_8abf5 zwI_J0_length_8abf5 zwS_J0_length_8abf5 zwM_RX6_135 rfl (by decide) rfl (Nat.le_of_ble_eq_true rfl) dX6_isWord_30 (fun mh4 v3 h4 => ?_))
  obtain rfl := zpuE h4
  refine zv_icmp_ge (tgt := 63) dX6_isWord_33 (by decide) ?_ ?_
  · exact zv_sub (L' := []) [] rfl (zv_exit (fun h => hX  h))
  refine zv_rload_n dX6_isWord_36 1 rfl ?_
  refine zg_RX6_9 dX6_isWord_37 g0 ?_
  refine zv_rload_n dX6_isWord_40 1 rfl ?_
  refine zg_RX6_22 dX6_isWord_41 g0 ?_
  refine zv_iload_n dX6_isWord_44 0 rfl ?_
  refine zv_iadd dX6_isWord_45 ?_
  refine zv_iald dX6_isWord_46 (zta_6_0 hT g0) (ztl_6_0 hT g0) (by decide) ?_
  refine zv_rload_n dX6_isWord_47 2 rfl ?_
  refine zv_iload_n dX6_isWord_48 0 rfl ?_
  refine zv_pc (zv_callT [iv y2] g1 (c_J0_charAt κ.2.1 hw l1 y2 M0 g1) zmd_J0_charAt_5068e zwI_J0_charAt_5068e zwS_J0_charAt_5068e zwM_RX6_139 rfl (by decide) rfl (Nat.le_of_ble_eq_true rfl) dX6_isWord_49 (fun mh6 v5 h6 => ?_))
  obtain rfl := zpuE h6
  refine zv_icmp_eq (tgt := 57) dX6_isWord_52 (by decide) ?_ ?_
  · refine zv_iinc dX6_isWord_57 0 rfl (fun x7 => [(2, iv x7), (0, rn w l0), (1, rn w (1000000 + l1))]) (by decide) (fun _ => rfl) (fun x7 => ?_)
    refine zv_goto (tgt := 28) dX6_isWord_60 (by decide) ?_
    exact zv_sub (L' := [(2, iv x7), (0, rn w l0), (1, rn w (1000000 + l1))]) [0, 1, 2] rfl (zv_exit (fun h => h))
  refine zv_iconst (z := 0) dX6_isWord_55 ?_
  exact zv_ret (fun h => hR _ h) (zv_zrB (by decide) dX6_isWord_56)
theorem c_X6_isWord (l : Launch) {w : zW} (hw : zWk w)  (p0 : Nat) (p1 : Nat) (M0 : zM) (hp0 : ztag w.1 p0 = 7) (hp1 : p1 < zsn) : zCn l yX6_isWord cX6_isWord 3 (some .boolean) (4) 1 w [rn w p0, rn w (1000000 + p1)] M0 ((f_X6_isWord w.1 p0 p1 M0).map fun v => (M0, v)) := by
  have hT := hw.1
  refine zCn_ofP (own := RX6) (by decide) rfl hw (Nat.le_of_ble_eq_true rfl) [(0, rn w p0), (1, rn w (1000000 + p1))] rfl ?_
  intro κ hl
  subst hl
  unfold f_X6_isWord
  refine zv_rload_n dX6_isWord_0 0 rfl ?_
  refine zg_RX6_28 dX6_isWord_1 hp0 ?_
  refine zv_iconst (z := 1) dX6_isWord_4 ?_
  refine zv_icmp_ne (tgt := 24) dX6_isWord_5 (by decide) ?_ ?_
  · refine zv_iconst (z := 0) dX6_isWord_24 ?_
    exact zv_ret (fun h => h) (zv_zrB (by decide) dX6_isWord_25)
  refine zv_rload_n dX6_isWord_8 0 rfl ?_
  refine zg_RX6_25 dX6_isWord_9 hp0 ?_
  refine zv_rload_n dX6_isWord_12 0 rfl ?_
  refine zg_RX6_22 dX6_isWord_13 hp0 ?_
  refine zv_isub dX6_isWord_16 ?_
  refine zv_rload_n dX6_isWord_17 1 rfl ?_
  refine zv_pc (zv_callT [] hp1 (c_J0_length κ.2.1 hw p1 M0 hp1) zmd_J0_length_8abf5 zwI_J0_length_8abf5 zwS_J0_length_8abf5 zwM_RX6_135 rfl (by decide) rfl (Nat.le_of_ble_eq_true rfl) dX6_isWord_18 (fun mh2 v1 h2 => ?_))
  obtain rfl := zpuE h2
  refine zv_icmp_eq (tgt := 26) dX6_isWord_21 (by decide) ?_ ?_
  · refine zv_iconst (z := 0) dX6_isWord_26 ?_
    refine zv_istore_np (L' := [(2, iv 0), (0, rn w p0), (1, rn w (1000000 + p1))]) (by rfl) dX6_isWord_27 (by decide) rfl ?_
    refine zv_joinS0 (fun r => (r)) 63 ([]) ([]) (M0) (zv_sub (L' := [(2, iv 0), (0, rn w p0), (1, rn w (1000000 + p1))]) [0, 1, 2] rfl (vl_X6_isWord_28 hw p0 p1 hp0 hp1 M0 _ (fun h => h) (fun _ h => ((fun h => h)) h) 0)) (?_)
    refine zv_iconst (z := 1) dX6_isWord_63 ?_
    exact zv_ret (fun h => h) (zv_zrB (by decide) dX6_isWord_64)
  refine zv_iconst (z := 0) dX6_isWord_24 ?_
  exact zv_ret (fun h => h) (zv_zrB (by decide) dX6_isWord_25)
def f_X3_putStep (k : zK)  (p0 : Nat) (p1 : Int) (M0 : zM) : Option zM :=
  zbr (M0 p0 7) 700 (700 ≤ M0 p0 7) (some M0) (zgd (0 ≤ M0 p0 7 ∧ M0 p0 7 < 700) (zlt (zst M0 (zfr k p0 6) (M0 p0 7).toNat (p1)) (fun M1 => zlt (zst M1 p0 7 ((M1 p0 7) + 1)) (fun M2 => some M2))))
theorem c_X3_putStep (l : Launch) {w : zW} (hw : zWk w)  (p0 : Nat) (p1 : Int) (M0 : zM) (hp0 : ztag w.1 p0 = 4) : zCn l yX3_putStep cX3_putStep 2 none (0) 0 w [rn w p0, iv p1] M0 ((f_X3_putStep w.1 p0 p1 M0).map fun m => (m, (0 : Int))) := by
  have hT := hw.1
  refine zCn_ofV (own := RX3) (by decide) rfl hw (Nat.le_of_ble_eq_true rfl) [(0, rn w p0), (1, iv p1)] rfl ?_
  intro κ hl
  subst hl
  unfold f_X3_putStep
  refine zv_rload_n dX3_putStep_0 0 rfl ?_
  refine zg_RX3_34 dX3_putStep_1 hp0 ?_
  refine zv_sipush (z := 700) dX3_putStep_4 (by decide) ?_
  refine zv_icmp_ge (tgt := 30) dX3_putStep_7 (by decide) ?_ ?_
  · exact zv_ret (fun h => h) (zv_vret (v := 0) dX3_putStep_30)
  refine zv_rload_n dX3_putStep_10 0 rfl ?_
  refine zg_RX3_31 dX3_putStep_11 hp0 ?_
  refine zv_rload_n dX3_putStep_14 0 rfl ?_
  refine zg_RX3_34 dX3_putStep_15 hp0 ?_
  refine zv_iload_n dX3_putStep_18 1 rfl ?_
  refine zv_iast dX3_putStep_19 (zta_3_6 hT hp0) (ztl_3_6 hT hp0) (by decide) (fun M1 => ?_)
  refine zv_rload_n dX3_putStep_20 0 rfl ?_
  refine zv_dup dX3_putStep_21 rfl ?_
  refine zg_RX3_34 dX3_putStep_22 hp0 ?_
  refine zv_iconst (z := 1) dX3_putStep_25 ?_
  refine zv_iadd dX3_putStep_26 ?_
  refine zp_RX3_34 dX3_putStep_27 hp0 (fun M2 => ?_)
  exact zv_ret (fun h => h) (zv_vret (v := 0) dX3_putStep_30)
def fb_X6_step_0 (k : zK)  (l0 : Nat) (M0 : zM) : Option ((zM) ⊕ (zM)) :=
  zbr (M0 l0 4) (M0 l0 2) (M0 l0 2 ≤ M0 l0 4) (some (.inr M0)) (zgd (0 ≤ M0 l0 4 ∧ M0 l0 4 < 700) (zsp0 (zbr (M0 (zfr k l0 0) (M0 l0 4).toNat) 32 (M0 (zfr k l0 0) (M0 l0 4).toNat = 32) (some (.inl ())) (zgd (0 ≤ M0 l0 4 ∧ M0 l0 4 < 700) (zbr (M0 (zfr k l0 0) (M0 l0 4).toNat) 10 (¬ M0 (zfr k l0 0) (M0 l0 4).toNat = 10) (some (.inr (.inr M0))) (some (.inl ()))))) (fun r => some r) (zlt (zst M0 l0 4 ((M0 l0 4) + 1)) (fun M1 => some (.inl (M1))))))
def fb_X6_step_117 (k : zK)  (l0 : Nat) (M0 : zM) : Option ((zM) ⊕ (zM)) :=
  zbr (M0 l0 4) (M0 l0 2) (M0 l0 2 ≤ M0 l0 4) (some (.inr M0)) (zgd (0 ≤ M0 l0 4 ∧ M0 l0 4 < 700) (zbr (M0 (zfr k l0 0) (M0 l0 4).toNat) 97 (M0 (zfr k l0 0) (M0 l0 4).toNat < 97) (some (.inr M0)) (zgd (0 ≤ M0 l0 4 ∧ M0 l0 4 < 700) (zbr (M0 (zfr k l0 0) (M0 l0 4).toNat) 122 (122 < M0 (zfr k l0 0) (M0 l0 4).toNat) (some (.inr M0)) (zlt (zst M0 l0 4 ((M0 l0 4) + 1)) (fun M6 => some (.inl (M6))))))))
def fb_X6_step_202 (k : zK)  (l0 : Nat) (M0 : zM) : Option ((zM) ⊕ (zM)) :=
  zbr (M0 l0 4) (M0 l0 2) (M0 l0 2 ≤ M0 l0 4) (some (.inr M0)) (zgd (0 ≤ M0 l0 4 ∧ M0 l0 4 < 700) (zbr (M0 (zfr k l0 0) (M0 l0 4).toNat) 48 (M0 (zfr k l0 0) (M0 l0 4).toNat < 48) (some (.inr M0)) (zgd (0 ≤ M0 l0 4 ∧ M0 l0 4 < 700) (zbr (M0 (zfr k l0 0) (M0 l0 4).toNat) 57 (57 < M0 (zfr k l0 0) (M0 l0 4).toNat) (some (.inr M0)) (zb1 (zbr ((M0 l0 4) - (M0 l0 3)) 4 (4 ≤ (M0 l0 4) - (M0 l0 3)) (some (10000)) (zgd (0 ≤ M0 l0 4 ∧ M0 l0 4 < 700) (some ((((M0 l0 6) * 10) + (M0 (zfr k l0 0) (M0 l0 4).toNat)) - 48)))) (fun x10 => zlt (zst M0 l0 6 x10) (fun M11 => zlt (zst M11 l0 4 ((M11 l0 4) + 1)) (fun M12 => some (.inl (M12))))))))))
def f_X6_step (k : zK)  (p0 : Nat) (M0 : zM) : Option zM :=
  zb1 (zw1 (fb_X6_step_0 k p0) zfu M0) (fun M2 => zlt (zst M2 p0 3 (M2 p0 4)) (fun M3 => zlt (zst M3 p0 6 0) (fun M4 => zbr (M4 p0 3) (M4 p0 2) (M4 p0 3 < M4 p0 2) (zgd (0 ≤ M4 p0 3 ∧ M4 p0 3 < 700) (zsp1 (zbr (M4 (zfr k p0 0) (M4 p0 3).toNat) 97 (M4 (zfr k p0 0) (M4 p0 3).toNat < 97) (some (.inl M4)) (zgd (0 ≤ M4 p0 3 ∧ M4 p0 3 < 700) (zbr (M4 (zfr k p0 0) (M4 p0 3).toNat) 122 (122 < M4 (zfr k p0 0) (M4 p0 3).toNat) (some (.inl M4)) (zlt (zst M4 p0 5 1) (fun M5 => zb1 (zw1 (fb_X6_step_117 k p0) zfu M5) (fun M7 => some (.inr M7))))))) (fun r => some r) (fun M8 => zgd (0 ≤ M8 p0 3 ∧ M8 p0 3 < 700) (zsp1 (zbr (M8 (zfr k p0 0) (M8 p0 3).toNat) 48 (M8 (zfr k p0 0) (M8 p0 3).toNat < 48) (some (.inl M8)) (zgd (0 ≤ M8 p0 3 ∧ M8 p0 3 < 700) (zbr (M8 (zfr k p0 0) (M8 p0 3).toNat) 57 (57 < M8 (zfr k p0 0) (M8 p0 3).toNat) (some (.inl M8)) (zlt (zst M8 p0 5 2) (fun M9 => zb1 (zw1 (fb_X6_step_202 k p0) zfu M9) (fun M13 => some (.inr M13))))))) (fun r => some r) (fun M14 => zlt (zst M14 p0 5 3) (fun M15 => zgd (0 ≤ M15 p0 3 ∧ M15 p0 3 < 700) (zlt (zst M15 p0 6 (M15 (zfr k p0 0) (M15 p0 3).toNat)) (fun M16 => zlt (zst M16 p0 4 ((M16 p0 4) + 1)) (fun M17 => some M17))))))))) (zlt (zst M4 p0 5 0) (fun M18 => some M18)))))
theorem vl_X6_step_0 {κ : zC} {w : zW} (hw : zWk w)  (l0 : Nat) (g0 : ztag w.1 l0 = 7)  (E : (zM) → Prop) (hX : ∀  (M1 : zM), E M1 → zB cX6_step RX6 1 none κ w (0, 0, 0) 52 [(0, rn w l0)] [] M1)  (M0 : zM) :
    zV cX6_step RX6 1 none κ w (0, 0, 0) 0 [(0, rn w l0)] [] M0 (zw1 (fb_X6_step_0 w.1 l0) zfu M0) E := by
  have hT := hw.1
  refine zv_loop1 (fun M0 => [(0, rn w l0)]) (fun M0 => M0) (fun M0 => ?_) M0
  unfold fb_X6_step_0
  refine zv_rload_n dX6_step_0 0 rfl ?_
  refine zg_RX6_25 dX6_step_1 g0 ?_
  refine zv_rload_n dX6_step_4 0 rfl ?_
  refine zg_RX6_19 dX6_step_5 g0 ?_
  refine zv_icmp_ge (tgt := 52) dX6_step_8 (by decide) ?_ ?_
  · exact zv_sub (L' := [(0, rn w l0)]) [0] rfl (zv_exit (fun h => hX _ h))
  refine zv_rload_n dX6_step_11 0 rfl ?_
  refine zg_RX6_9 dX6_step_12 g0 ?_
  refine zv_rload_n dX6_step_15 0 rfl ?_
  refine zg_RX6_25 dX6_step_16 g0 ?_
  refine zv_iald dX6_step_19 (zta_6_0 hT g0) (ztl_6_0 hT g0) (by decide) ?_
  refine zv_bipush (z := 32) dX6_step_20 (by decide) ?_
  refine zv_joinS0 (fun r => r) 39 ([(0, rn w l0)]) ([]) (M0) ?_ (?_)
  · refine zv_icmp_eq (tgt := 39) dX6_step_22 (by decide) ?_ ?_
    · exact zv_sub (L' := [(0, rn w l0)]) [0] rfl (zv_exit (fun h => h))
    refine zv_rload_n dX6_step_25 0 rfl ?_
    refine zg_RX6_9 dX6_step_26 g0 ?_
    refine zv_rload_n dX6_step_29 0 rfl ?_
    refine zg_RX6_25 dX6_step_30 g0 ?_
    refine zv_iald dX6_step_33 (zta_6_0 hT g0) (ztl_6_0 hT g0) (by decide) ?_
    refine zv_bipush (z := 10) dX6_step_34 (by decide) ?_
    refine zv_icmp_ne (tgt := 52) dX6_step_36 (by decide) ?_ ?_
    · exact zv_sub (L' := [(0, rn w l0)]) [0] rfl (zv_exit (fun h => hX _ h))
    exact zv_sub (L' := [(0, rn w l0)]) [0] rfl (zv_exit (fun h => h))
  refine zv_rload_n dX6_step_39 0 rfl ?_
  refine zv_dup dX6_step_40 rfl ?_
  refine zg_RX6_25 dX6_step_41 g0 ?_
  refine zv_iconst (z := 1) dX6_step_44 ?_
  refine zv_iadd dX6_step_45 ?_
  refine zp_RX6_25 dX6_step_46 g0 (fun M1 => ?_)
  refine zv_goto (tgt := 0) dX6_step_49 (by decide) ?_
  exact zv_sub (L' := [(0, rn w l0)]) [0] rfl (zv_exit (fun h => h))
theorem vl_X6_step_117 {κ : zC} {w : zW} (hw : zWk w)  (l0 : Nat) (g0 : ztag w.1 l0 = 7)  (E : (zM) → Prop) (hX : ∀  (M1 : zM), E M1 → zB cX6_step RX6 1 none κ w (0, 0, 0) 325 [] [] M1)  (M0 : zM) :
    zV cX6_step RX6 1 none κ w (0, 0, 0) 117 [(0, rn w l0)] [] M0 (zw1 (fb_X6_step_117 w.1 l0) zfu M0) E := by
  have hT := hw.1
  refine zv_loop1 (fun M0 => [(0, rn w l0)]) (fun M0 => M0) (fun M0 => ?_) M0
  unfold fb_X6_step_117
  refine zv_rload_n dX6_step_117 0 rfl ?_
  refine zg_RX6_25 dX6_step_118 g0 ?_
  refine zv_rload_n dX6_step_121 0 rfl ?_
  refine zg_RX6_19 dX6_step_122 g0 ?_
  refine zv_icmp_ge (tgt := 325) dX6_step_125 (by decide) ?_ ?_
  · exact zv_sub (L' := []) [] rfl (zv_exit (fun h => hX _ h))
  refine zv_rload_n dX6_step_128 0 rfl ?_
  refine zg_RX6_9 dX6_step_129 g0 ?_
  refine zv_rload_n dX6_step_132 0 rfl ?_
  refine zg_RX6_25 dX6_step_133 g0 ?_
  refine zv_iald dX6_step_136 (zta_6_0 hT g0) (ztl_6_0 hT g0) (by decide) ?_
  refine zv_bipush (z := 97) dX6_step_137 (by decide) ?_
  refine zv_icmp_lt (tgt := 325) dX6_step_139 (by decide) ?_ ?_
  · exact zv_sub (L' := []) [] rfl (zv_exit (fun h => hX _ h))
  refine zv_rload_n dX6_step_142 0 rfl ?_
  refine zg_RX6_9 dX6_step_143 g0 ?_
  refine zv_rload_n dX6_step_146 0 rfl ?_
  refine zg_RX6_25 dX6_step_147 g0 ?_
  refine zv_iald dX6_step_150 (zta_6_0 hT g0) (ztl_6_0 hT g0) (by decide) ?_
  refine zv_bipush (z := 122) dX6_step_151 (by decide) ?_
  refine zv_icmp_gt (tgt := 325) dX6_step_153 (by decide) ?_ ?_
  · exact zv_sub (L' := []) [] rfl (zv_exit (fun h => hX _ h))
  refine zv_rload_n dX6_step_156 0 rfl ?_
  refine zv_dup dX6_step_157 rfl ?_
  refine zg_RX6_25 dX6_step_158 g0 ?_
  refine zv_iconst (z := 1) dX6_step_161 ?_
  refine zv_iadd dX6_step_162 ?_
  refine zp_RX6_25 dX6_step_163 g0 (fun M6 => ?_)
  refine zv_goto (tgt := 117) dX6_step_166 (by decide) ?_
  exact zv_sub (L' := [(0, rn w l0)]) [0] rfl (zv_exit (fun h => h))
set_option maxRecDepth 20000 in
theorem vl_X6_step_202 {κ : zC} {w : zW} (hw : zWk w)  (l0 : Nat) (g0 : ztag w.1 l0 = 7)  (E : (zM) → Prop) (hX : ∀  (M1 : zM), E M1 → zB cX6_step RX6 1 none κ w (0, 0, 0) 325 [] [] M1)  (M0 : zM) :
    zV cX6_step RX6 1 none κ w (0, 0, 0) 202 [(0, rn w l0)] [] M0 (zw1 (fb_X6_step_202 w.1 l0) zfu M0) E := by
  have hT := hw.1
  refine zv_loop1 (fun M0 => [(0, rn w l0)]) (fun M0 => M0) (fun M0 => ?_) M0
  unfold fb_X6_step_202
  refine zv_rload_n dX6_step_202 0 rfl ?_
  refine zg_RX6_25 dX6_step_203 g0 ?_
  refine zv_rload_n dX6_step_206 0 rfl ?_
  refine zg_RX6_19 dX6_step_207 g0 ?_
  refine zv_icmp_ge (tgt := 325) dX6_step_210 (by decide) ?_ ?_
  · exact zv_sub (L' := []) [] rfl (zv_exit (fun h => hX _ h))
  refine zv_rload_n dX6_step_213 0 rfl ?_
  refine zg_RX6_9 dX6_step_214 g0 ?_
  refine zv_rload_n dX6_step_217 0 rfl ?_
  refine zg_RX6_25 dX6_step_218 g0 ?_
  refine zv_iald dX6_step_221 (zta_6_0 hT g0) (ztl_6_0 hT g0) (by decide) ?_
  refine zv_bipush (z := 48) dX6_step_222 (by decide) ?_
  refine zv_icmp_lt (tgt := 325) dX6_step_224 (by decide) ?_ ?_
  · exact zv_sub (L' := []) [] rfl (zv_exit (fun h => hX _ h))
  refine zv_rload_n dX6_step_227 0 rfl ?_
  refine zg_RX6_9 dX6_step_228 g0 ?_
  refine zv_rload_n dX6_step_231 0 rfl ?_
  refine zg_RX6_25 dX6_step_232 g0 ?_
  refine zv_iald dX6_step_235 (zta_6_0 hT g0) (ztl_6_0 hT g0) (by decide) ?_
  refine zv_bipush (z := 57) dX6_step_236 (by decide) ?_
  refine zv_icmp_gt (tgt := 325) dX6_step_238 (by decide) ?_ ?_
  · exact zv_sub (L' := []) [] rfl (zv_exit (fun h => hX _ h))
  refine zv_rload_n dX6_step_241 0 rfl ?_
  refine zv_rload_n dX6_step_242 0 rfl ?_
  refine zg_RX6_25 dX6_step_243 g0 ?_
  refine zv_rload_n dX6_step_246 0 rfl ?_
  refine zg_RX6_22 dX6_step_247 g0 ?_
  refine zv_isub dX6_step_250 ?_
  refine zv_iconst (z := 4) dX6_step_251 ?_
  refine zv_join1 281 (fun x10 => [(0, rn w l0)]) (fun x10 => [iv x10, rn w l0]) (fun x10 => M0) ?_ (fun x10 => ?_)
  · refine zv_icmp_ge (tgt := 278) dX6_step_252 (by decide) ?_ ?_
    · refine zv_sipush (z := 10000) dX6_step_278 (by decide) ?_
      exact zv_sub (L' := [(0, rn w l0)]) [0] rfl (zv_exit (fun h => h))
    refine zv_rload_n dX6_step_255 0 rfl ?_
    refine zg_RX6_31 dX6_step_256 g0 ?_
    refine zv_bipush (z := 10) dX6_step_259 (by decide) ?_
    refine zv_imul dX6_step_261 ?_
    refine zv_rload_n dX6_step_262 0 rfl ?_
    refine zg_RX6_9 dX6_step_263 g0 ?_
    refine zv_rload_n dX6_step_266 0 rfl ?_
    refine zg_RX6_25 dX6_step_267 g0 ?_
    refine zv_iald dX6_step_270 (zta_6_0 hT g0) (ztl_6_0 hT g0) (by decide) ?_
    refine zv_iadd dX6_step_271 ?_
    refine zv_bipush (z := 48) dX6_step_272 (by decide) ?_
    refine zv_isub dX6_step_274 ?_
    refine zv_goto (tgt := 281) dX6_step_275 (by decide) ?_
    exact zv_sub (L' := [(0, rn w l0)]) [0] rfl (zv_exit (fun h => h))
  refine zp_RX6_31 dX6_step_281 g0 (fun M11 => ?_)
  refine zv_rload_n dX6_step_284 0 rfl ?_
  refine zv_dup dX6_step_285 rfl ?_
  refine zg_RX6_25 dX6_step_286 g0 ?_
  refine zv_iconst (z := 1) dX6_step_289 ?_
  refine zv_iadd dX6_step_290 ?_
  refine zp_RX6_25 dX6_step_291 g0 (fun M12 => ?_)
  refine zv_goto (tgt := 202) dX6_step_294 (by decide) ?_
  exact zv_sub (L' := [(0, rn w l0)]) [0] rfl (zv_exit (fun h => h))
set_option maxRecDepth 20000 in
theorem c_X6_step (l : Launch) {w : zW} (hw : zWk w)  (p0 : Nat) (M0 : zM) (hp0 : ztag w.1 p0 = 7) : zCn l yX6_step cX6_step 1 none (0) 0 w [rn w p0] M0 ((f_X6_step w.1 p0 M0).map fun m => (m, (0 : Int))) := by
  have hT := hw.1
  refine zCn_ofV (own := RX6) (by decide) rfl hw (Nat.le_of_ble_eq_true rfl) [(0, rn w p0)] rfl ?_
  intro κ hl
  subst hl
  unfold f_X6_step
  refine zv_join1 52 (fun M2 => [(0, rn w p0)]) (fun M2 => []) (fun M2 => M2) (zv_sub (L' := [(0, rn w p0)]) [0] rfl (vl_X6_step_0 hw p0 hp0 _ (fun _ h => h) M0)) (fun M2 => ?_)
  refine zv_rload_n dX6_step_52 0 rfl ?_
  refine zv_rload_n dX6_step_53 0 rfl ?_
  refine zg_RX6_25 dX6_step_54 hp0 ?_
  refine zp_RX6_22 dX6_step_57 hp0 (fun M3 => ?_)
  refine zv_rload_n dX6_step_60 0 rfl ?_
  refine zv_iconst (z := 0) dX6_step_61 ?_
  refine zp_RX6_31 dX6_step_62 hp0 (fun M4 => ?_)
  refine zv_rload_n dX6_step_65 0 rfl ?_
  refine zg_RX6_22 dX6_step_66 hp0 ?_
  refine zv_rload_n dX6_step_69 0 rfl ?_
  refine zg_RX6_19 dX6_step_70 hp0 ?_
  refine zv_icmp_lt (tgt := 84) dX6_step_73 (by decide) ?_ ?_
  · refine zv_rload_n dX6_step_84 0 rfl ?_
    refine zg_RX6_9 dX6_step_85 hp0 ?_
    refine zv_rload_n dX6_step_88 0 rfl ?_
    refine zg_RX6_22 dX6_step_89 hp0 ?_
    refine zv_iald dX6_step_92 (zta_6_0 hT hp0) (ztl_6_0 hT hp0) (by decide) ?_
    refine zv_bipush (z := 97) dX6_step_93 (by decide) ?_
    refine zv_joinS1 (fun r => r) 169 (fun M8 => [(0, rn w p0)]) (fun M8 => []) (fun M8 => M8) ?_ (fun M8 => ?_)
    · refine zv_icmp_lt (tgt := 169) dX6_step_95 (by decide) ?_ ?_
      · exact zv_sub (L' := [(0, rn w p0)]) [0] rfl (zv_exit (fun h => h))
      refine zv_rload_n dX6_step_98 0 rfl ?_
      refine zg_RX6_9 dX6_step_99 hp0 ?_
      refine zv_rload_n dX6_step_102 0 rfl ?_
      refine zg_RX6_22 dX6_step_103 hp0 ?_
      refine zv_iald dX6_step_106 (zta_6_0 hT hp0) (ztl_6_0 hT hp0) (by decide) ?_
      refine zv_bipush (z := 122) dX6_step_107 (by decide) ?_
      refine zv_icmp_gt (tgt := 169) dX6_step_109 (by decide) ?_ ?_
      · exact zv_sub (L' := [(0, rn w p0)]) [0] rfl (zv_exit (fun h => h))
      refine zv_rload_n dX6_step_112 0 rfl ?_
      refine zv_iconst (z := 1) dX6_step_113 ?_
      refine zp_RX6_28 dX6_step_114 hp0 (fun M5 => ?_)
      refine zv_join1 325 (fun M7 => []) (fun M7 => []) (fun M7 => M7) (zv_sub (L' := [(0, rn w p0)]) [0] rfl (vl_X6_step_117 hw p0 hp0 _ (fun _ h => h) M5)) (fun M7 => ?_)
      exact zv_ret (fun h => h) (zv_vret (v := 0) dX6_step_325)
    refine zv_rload_n dX6_step_169 0 rfl ?_
    refine zg_RX6_9 dX6_step_170 hp0 ?_
    refine zv_rload_n dX6_step_173 0 rfl ?_
    refine zg_RX6_22 dX6_step_174 hp0 ?_
    refine zv_iald dX6_step_177 (zta_6_0 hT hp0) (ztl_6_0 hT hp0) (by decide) ?_
    refine zv_bipush (z := 48) dX6_step_178 (by decide) ?_
    refine zv_joinS1 (fun r => r) 297 (fun M14 => [(0, rn w p0)]) (fun M14 => []) (fun M14 => M14) ?_ (fun M14 => ?_)
    · refine zv_icmp_lt (tgt := 297) dX6_step_180 (by decide) ?_ ?_
      · exact zv_sub (L' := [(0, rn w p0)]) [0] rfl (zv_exit (fun h => h))
      refine zv_rload_n dX6_step_183 0 rfl ?_
      refine zg_RX6_9 dX6_step_184 hp0 ?_
      refine zv_rload_n dX6_step_187 0 rfl ?_
      refine zg_RX6_22 dX6_step_188 hp0 ?_
      refine zv_iald dX6_step_191 (zta_6_0 hT hp0) (ztl_6_0 hT hp0) (by decide) ?_
      refine zv_bipush (z := 57) dX6_step_192 (by decide) ?_
      refine zv_icmp_gt (tgt := 297) dX6_step_194 (by decide) ?_ ?_
      · exact zv_sub (L' := [(0, rn w p0)]) [0] rfl (zv_exit (fun h => h))
      refine zv_rload_n dX6_step_197 0 rfl ?_
      refine zv_iconst (z := 2) dX6_step_198 ?_
      refine zp_RX6_28 dX6_step_199 hp0 (fun M9 => ?_)
      refine zv_join1 325 (fun M13 => []) (fun M13 => []) (fun M13 => M13) (zv_sub (L' := [(0, rn w p0)]) [0] rfl (vl_X6_step_202 hw p0 hp0 _ (fun _ h => h) M9)) (fun M13 => ?_)
      exact zv_ret (fun h => h) (zv_vret (v := 0) dX6_step_325)
    refine zv_rload_n dX6_step_297 0 rfl ?_
    refine zv_iconst (z := 3) dX6_step_298 ?_
    refine zp_RX6_28 dX6_step_299 hp0 (fun M15 => ?_)
    refine zv_rload_n dX6_step_302 0 rfl ?_
    refine zv_rload_n dX6_step_303 0 rfl ?_
    refine zg_RX6_9 dX6_step_304 hp0 ?_
    refine zv_rload_n dX6_step_307 0 rfl ?_
    refine zg_RX6_22 dX6_step_308 hp0 ?_
    refine zv_iald dX6_step_311 (zta_6_0 hT hp0) (ztl_6_0 hT hp0) (by decide) ?_
    refine zp_RX6_31 dX6_step_312 hp0 (fun M16 => ?_)
    refine zv_rload_n dX6_step_315 0 rfl ?_
    refine zv_dup dX6_step_316 rfl ?_
    refine zg_RX6_25 dX6_step_317 hp0 ?_
    refine zv_iconst (z := 1) dX6_step_320 ?_
    refine zv_iadd dX6_step_321 ?_
    refine zp_RX6_25 dX6_step_322 hp0 (fun M17 => ?_)
    exact zv_ret (fun h => h) (zv_vret (v := 0) dX6_step_325)
  refine zv_rload_n dX6_step_76 0 rfl ?_
  refine zv_iconst (z := 0) dX6_step_77 ?_
  refine zp_RX6_28 dX6_step_78 hp0 (fun M18 => ?_)
  refine zv_goto (tgt := 325) dX6_step_81 (by decide) ?_
  exact zv_ret (fun h => h) (zv_vret (v := 0) dX6_step_325)
def f_X3_putEdge (k : zK)  (p0 : Nat) (p1 : Int) (M0 : zM) : Option zM :=
  zbr p1 100 (100 ≤ p1) (some M0) (zgd (((1 : Int) = 0 ∨ (1 : Int) = 1) ∧ 0 ≤ p1 ∧ p1 < 100) (zlt (zst M0 (zfr k p0 11) p1.toNat (1)) (fun M1 => some M1)))
theorem c_X3_putEdge (l : Launch) {w : zW} (hw : zWk w)  (p0 : Nat) (p1 : Int) (M0 : zM) (hp0 : ztag w.1 p0 = 4) : zCn l yX3_putEdge cX3_putEdge 2 none (0) 0 w [rn w p0, iv p1] M0 ((f_X3_putEdge w.1 p0 p1 M0).map fun m => (m, (0 : Int))) := by
  have hT := hw.1
  refine zCn_ofV (own := RX3) (by decide) rfl hw (Nat.le_of_ble_eq_true rfl) [(0, rn w p0), (1, iv p1)] rfl ?_
  intro κ hl
  subst hl
  unfold f_X3_putEdge
  refine zv_iload_n dX3_putEdge_0 1 rfl ?_
  refine zv_bipush (z := 100) dX3_putEdge_1 (by decide) ?_
  refine zv_icmp_ge (tgt := 13) dX3_putEdge_3 (by decide) ?_ ?_
  · exact zv_ret (fun h => h) (zv_vret (v := 0) dX3_putEdge_13)
  refine zv_rload_n dX3_putEdge_6 0 rfl ?_
  refine zg_RX3_47 dX3_putEdge_7 hp0 ?_
  refine zv_iload_n dX3_putEdge_10 1 rfl ?_
  refine zv_iconst (z := 1) dX3_putEdge_11 ?_
  refine zv_zast dX3_putEdge_12 (zta_3_11 hT hp0) (ztl_3_11 hT hp0) (by decide) (fun M1 => ?_)
  exact zv_ret (fun h => h) (zv_vret (v := 0) dX3_putEdge_13)
def f_X3_putComparison (k : zK)  (p0 : Nat) (p1 : Int) (p2 : Int) (p3 : Int) (M0 : zM) : Option zM :=
  zb1 (f_X3_putStep k p0 (zo_or (zo_or (zo_shl p3 8) (zo_shl p1 4)) p2) M0) (fun M1 => zbr p1 2 (¬ p1 = 2) (some M1) (zb1 (zbr p2 1 (p2 = 1) (some (M1)) (zb1 (f_X3_putEdge k p0 p3 M1) (fun M2 => some (M2)))) (fun M3 => zbr p2 0 (p2 = 0) (some M3) (zb1 (f_X3_putEdge k p0 (p3 + 1) M3) (fun M4 => some M4)))))
theorem c_X3_putComparison (l : Launch) {w : zW} (hw : zWk w)  (p0 : Nat) (p1 : Int) (p2 : Int) (p3 : Int) (M0 : zM) (hp0 : ztag w.1 p0 = 4) : zCn l yX3_putComparison cX3_putComparison 4 none (1) 0 w [rn w p0, iv p1, iv p2, iv p3] M0 ((f_X3_putComparison w.1 p0 p1 p2 p3 M0).map fun m => (m, (0 : Int))) := by
  have hT := hw.1
  refine zCn_ofV (own := RX3) (by decide) rfl hw (Nat.le_of_ble_eq_true rfl) [(0, rn w p0), (1, iv p1), (2, iv p2), (3, iv p3)] rfl ?_
  intro κ hl
  subst hl
  unfold f_X3_putComparison
  refine zv_rload_n dX3_putComparison_0 0 rfl ?_
  refine zv_iload_n dX3_putComparison_1 3 rfl ?_
  refine zv_bipush (z := 8) dX3_putComparison_2 (by decide) ?_
  refine zv_ishl dX3_putComparison_4 ?_
  refine zv_iload_n dX3_putComparison_5 1 rfl ?_
  refine zv_iconst (z := 4) dX3_putComparison_6 ?_
  refine zv_ishl dX3_putComparison_7 ?_
  refine zv_ior dX3_putComparison_8 ?_
  refine zv_iload_n dX3_putComparison_9 2 rfl ?_
  refine zv_ior dX3_putComparison_10 ?_
  refine zv_vc (zv_callVv [iv (zo_or (zo_or (zo_shl p3 8) (zo_shl p1 4)) p2)] (c_X3_putStep κ.2.1 hw p0 (zo_or (zo_or (zo_shl p3 8) (zo_shl p1 4)) p2) M0 hp0) zmd_X3_putStep zwI_X3_putStep zwS_X3_putStep zwM_RX3_65 zcd_3 hp0 rfl (by decide) rfl (Nat.le_of_ble_eq_true rfl) dX3_putComparison_11 (fun M1 _ _ => ?_))
  refine zv_iload_n dX3_putComparison_14 1 rfl ?_
  refine zv_iconst (z := 2) dX3_putComparison_15 ?_
  refine zv_icmp_ne (tgt := 40) dX3_putComparison_16 (by decide) ?_ ?_
  · exact zv_ret (fun h => h) (zv_vret (v := 0) dX3_putComparison_40)
  refine zv_iload_n dX3_putComparison_19 2 rfl ?_
  refine zv_iconst (z := 1) dX3_putComparison_20 ?_
  refine zv_join1 29 (fun M3 => [(0, rn w p0), (2, iv p2), (3, iv p3)]) (fun M3 => []) (fun M3 => M3) ?_ (fun M3 => ?_)
  · refine zv_icmp_eq (tgt := 29) dX3_putComparison_21 (by decide) ?_ ?_
    · exact zv_sub (L' := [(0, rn w p0), (2, iv p2), (3, iv p3)]) [0, 2, 3] rfl (zv_exit (fun h => h))
    refine zv_rload_n dX3_putComparison_24 0 rfl ?_
    refine zv_iload_n dX3_putComparison_25 3 rfl ?_
    refine zv_vc (zv_callVv [iv p3] (c_X3_putEdge κ.2.1 hw p0 p3 M1 hp0) zmd_X3_putEdge zwI_X3_putEdge zwS_X3_putEdge zwM_RX3_69 zcd_3 hp0 rfl (by decide) rfl (Nat.le_of_ble_eq_true rfl) dX3_putComparison_26 (fun M2 _ _ => ?_))
    exact zv_sub (L' := [(0, rn w p0), (2, iv p2), (3, iv p3)]) [0, 2, 3] rfl (zv_exit (fun h => h))
  refine zv_iload_n dX3_putComparison_29 1 rfl ?_
  refine zv_if_eq (tgt := 40) dX3_putComparison_30 (by decide) ?_ ?_
  · exact zv_ret (fun h => h) (zv_vret (v := 0) dX3_putComparison_40)
  refine zv_rload_n dX3_putComparison_33 0 rfl ?_
  refine zv_iload_n dX3_putComparison_34 2 rfl ?_
  refine zv_iconst (z := 1) dX3_putComparison_35 ?_
  refine zv_iadd dX3_putComparison_36 ?_
  refine zv_vc (zv_callVv [iv (p3 + 1)] (c_X3_putEdge κ.2.1 hw p0 (p3 + 1) M3 hp0) zmd_X3_putEdge zwI_X3_putEdge zwS_X3_putEdge zwM_RX3_69 zcd_3 hp0 rfl (by decide) rfl (Nat.le_of_ble_eq_true rfl) dX3_putComparison_37 (fun M4 _ _ => ?_))
  exact zv_ret (fun h => h) (zv_vret (v := 0) dX3_putComparison_40)
def f_X6_askedWord (k : zK)  (p0 : Nat) (M0 : zM) : Option Int :=
  zb1 (f_X6_isWord k p0 15 M0) (fun v1 => zbr v1 0 (v1 = 0) (zb1 (f_X6_isWord k p0 16 M0) (fun v3 => zbr v3 0 (v3 = 0) (zb1 (f_X6_isWord k p0 17 M0) (fun v5 => zbr v5 0 (v5 = 0) (zb1 (f_X6_isWord k p0 18 M0) (fun v7 => zbr v7 0 (v7 = 0) (zb1 (f_X6_isWord k p0 19 M0) (fun v9 => zbr v9 0 (v9 = 0) (zb1 (f_X6_isWord k p0 20 M0) (fun v11 => zbr v11 0 (v11 = 0) (zb1 (f_X6_isWord k p0 21 M0) (fun v13 => zbr v13 0 (v13 = 0) (some (-1)) (some 6))) (some 5))) (some 4))) (some 3))) (some 2))) (some 1))) (some 0))
theorem c_X6_askedWord (l : Launch) {w : zW} (hw : zWk w)  (p0 : Nat) (M0 : zM) (hp0 : ztag w.1 p0 = 7) : zCn l yX6_askedWord cX6_askedWord 1 (some .int) (5) 1 w [rn w p0] M0 ((f_X6_askedWord w.1 p0 M0).map fun v => (M0, v)) := by
  have hT := hw.1
  refine zCn_ofP (own := RX6) (by decide) rfl hw (Nat.le_of_ble_eq_true rfl) [(0, rn w p0)] rfl ?_
  intro κ hl
  subst hl
  unfold f_X6_askedWord
  refine zv_rload_n dX6_askedWord_0 0 rfl ?_
  refine zv_ldcs (j := 15) rfl zws_15 dX6_askedWord_1 ?_
  refine zv_pc (zv_callVi [rn w (1000000 + 15)] (c_X6_isWord κ.2.1 hw p0 15 M0 hp0 (by decide)) zmd_X6_isWord zwI_X6_isWord zwS_X6_isWord zwM_RX6_79 zcd_6 hp0 rfl (by decide) rfl (Nat.le_of_ble_eq_true rfl) dX6_askedWord_3 (fun mh2 v1 h2 => ?_))
  obtain rfl := zpuE h2
  refine zv_if_eq (tgt := 11) dX6_askedWord_6 (by decide) ?_ ?_
  · refine zv_rload_n dX6_askedWord_11 0 rfl ?_
    refine zv_ldcs (j := 16) rfl zws_16 dX6_askedWord_12 ?_
    refine zv_pc (zv_callVi [rn w (1000000 + 16)] (c_X6_isWord κ.2.1 hw p0 16 M0 hp0 (by decide)) zmd_X6_isWord zwI_X6_isWord zwS_X6_isWord zwM_RX6_79 zcd_6 hp0 rfl (by decide) rfl (Nat.le_of_ble_eq_true rfl) dX6_askedWord_14 (fun mh4 v3 h4 => ?_))
    obtain rfl := zpuE h4
    refine zv_if_eq (tgt := 22) dX6_askedWord_17 (by decide) ?_ ?_
    · refine zv_rload_n dX6_askedWord_22 0 rfl ?_
      refine zv_ldcs (j := 17) rfl zws_17 dX6_askedWord_23 ?_
      refine zv_pc (zv_callVi [rn w (1000000 + 17)] (c_X6_isWord κ.2.1 hw p0 17 M0 hp0 (by decide)) zmd_X6_isWord zwI_X6_isWord zwS_X6_isWord zwM_RX6_79 zcd_6 hp0 rfl (by decide) rfl (Nat.le_of_ble_eq_true rfl) dX6_askedWord_25 (fun mh6 v5 h6 => ?_))
      obtain rfl := zpuE h6
      refine zv_if_eq (tgt := 33) dX6_askedWord_28 (by decide) ?_ ?_
      · refine zv_rload_n dX6_askedWord_33 0 rfl ?_
        refine zv_ldcs (j := 18) rfl zws_18 dX6_askedWord_34 ?_
        refine zv_pc (zv_callVi [rn w (1000000 + 18)] (c_X6_isWord κ.2.1 hw p0 18 M0 hp0 (by decide)) zmd_X6_isWord zwI_X6_isWord zwS_X6_isWord zwM_RX6_79 zcd_6 hp0 rfl (by decide) rfl (Nat.le_of_ble_eq_true rfl) dX6_askedWord_36 (fun mh8 v7 h8 => ?_))
        obtain rfl := zpuE h8
        refine zv_if_eq (tgt := 44) dX6_askedWord_39 (by decide) ?_ ?_
        · refine zv_rload_n dX6_askedWord_44 0 rfl ?_
          refine zv_ldcs (j := 19) rfl zws_19 dX6_askedWord_45 ?_
          refine zv_pc (zv_callVi [rn w (1000000 + 19)] (c_X6_isWord κ.2.1 hw p0 19 M0 hp0 (by decide)) zmd_X6_isWord zwI_X6_isWord zwS_X6_isWord zwM_RX6_79 zcd_6 hp0 rfl (by decide) rfl (Nat.le_of_ble_eq_true rfl) dX6_askedWord_47 (fun mh10 v9 h10 => ?_))
          obtain rfl := zpuE h10
          refine zv_if_eq (tgt := 55) dX6_askedWord_50 (by decide) ?_ ?_
          · refine zv_rload_n dX6_askedWord_55 0 rfl ?_
            refine zv_ldcs (j := 20) rfl zws_20 dX6_askedWord_56 ?_
            refine zv_pc (zv_callVi [rn w (1000000 + 20)] (c_X6_isWord κ.2.1 hw p0 20 M0 hp0 (by decide)) zmd_X6_isWord zwI_X6_isWord zwS_X6_isWord zwM_RX6_79 zcd_6 hp0 rfl (by decide) rfl (Nat.le_of_ble_eq_true rfl) dX6_askedWord_58 (fun mh12 v11 h12 => ?_))
            obtain rfl := zpuE h12
            refine zv_if_eq (tgt := 66) dX6_askedWord_61 (by decide) ?_ ?_
            · refine zv_rload_n dX6_askedWord_66 0 rfl ?_
              refine zv_ldcs (j := 21) rfl zws_21 dX6_askedWord_67 ?_
              refine zv_pc (zv_callVi [rn w (1000000 + 21)] (c_X6_isWord κ.2.1 hw p0 21 M0 hp0 (by decide)) zmd_X6_isWord zwI_X6_isWord zwS_X6_isWord zwM_RX6_79 zcd_6 hp0 rfl (by decide) rfl (Nat.le_of_ble_eq_true rfl) dX6_askedWord_69 (fun mh14 v13 h14 => ?_))
              obtain rfl := zpuE h14
              refine zv_if_eq (tgt := 80) dX6_askedWord_72 (by decide) ?_ ?_
              · refine zv_iconst (z := (-1)) dX6_askedWord_80 ?_
                exact zv_ret (fun h => h) (zv_iret dX6_askedWord_81)
              refine zv_bipush (z := 6) dX6_askedWord_75 (by decide) ?_
              refine zv_goto (tgt := 81) dX6_askedWord_77 (by decide) ?_
              exact zv_ret (fun h => h) (zv_iret dX6_askedWord_81)
            refine zv_iconst (z := 5) dX6_askedWord_64 ?_
            exact zv_ret (fun h => h) (zv_iret dX6_askedWord_65)
          refine zv_iconst (z := 4) dX6_askedWord_53 ?_
          exact zv_ret (fun h => h) (zv_iret dX6_askedWord_54)
        refine zv_iconst (z := 3) dX6_askedWord_42 ?_
        exact zv_ret (fun h => h) (zv_iret dX6_askedWord_43)
      refine zv_iconst (z := 2) dX6_askedWord_31 ?_
      exact zv_ret (fun h => h) (zv_iret dX6_askedWord_32)
    refine zv_iconst (z := 1) dX6_askedWord_20 ?_
    exact zv_ret (fun h => h) (zv_iret dX6_askedWord_21)
  refine zv_iconst (z := 0) dX6_askedWord_9 ?_
  exact zv_ret (fun h => h) (zv_iret dX6_askedWord_10)
def f_X6_isSign (k : zK)  (p0 : Nat) (p1 : Int) (M0 : zM) : Option Int :=
  zbr (M0 p0 5) 3 (¬ M0 p0 5 = 3) (some 0) (zbr (M0 p0 6) p1 (¬ M0 p0 6 = p1) (some 0) (some 1))
theorem c_X6_isSign (l : Launch) {w : zW} (hw : zWk w)  (p0 : Nat) (p1 : Int) (M0 : zM) (hp0 : ztag w.1 p0 = 7) : zCn l yX6_isSign cX6_isSign 2 (some .boolean) (0) 1 w [rn w p0, iv p1] M0 ((f_X6_isSign w.1 p0 p1 M0).map fun v => (M0, v)) := by
  have hT := hw.1
  refine zCn_ofP (own := RX6) (by decide) rfl hw (Nat.le_of_ble_eq_true rfl) [(0, rn w p0), (1, iv p1)] rfl ?_
  intro κ hl
  subst hl
  unfold f_X6_isSign
  refine zv_rload_n dX6_isSign_0 0 rfl ?_
  refine zg_RX6_28 dX6_isSign_1 hp0 ?_
  refine zv_iconst (z := 3) dX6_isSign_4 ?_
  refine zv_icmp_ne (tgt := 20) dX6_isSign_5 (by decide) ?_ ?_
  · refine zv_iconst (z := 0) dX6_isSign_20 ?_
    exact zv_ret (fun h => h) (zv_zrB (by decide) dX6_isSign_21)
  refine zv_rload_n dX6_isSign_8 0 rfl ?_
  refine zg_RX6_31 dX6_isSign_9 hp0 ?_
  refine zv_iload_n dX6_isSign_12 1 rfl ?_
  refine zv_icmp_ne (tgt := 20) dX6_isSign_13 (by decide) ?_ ?_
  · refine zv_iconst (z := 0) dX6_isSign_20 ?_
    exact zv_ret (fun h => h) (zv_zrB (by decide) dX6_isSign_21)
  refine zv_iconst (z := 1) dX6_isSign_16 ?_
  refine zv_goto (tgt := 21) dX6_isSign_17 (by decide) ?_
  exact zv_ret (fun h => h) (zv_zrB (by decide) dX6_isSign_21)
def f_X6_comparingSign (k : zK)  (p0 : Nat) (M0 : zM) : Option Int :=
  zb1 (f_X6_isSign k p0 60 M0) (fun v1 => zbr v1 0 (v1 = 0) (zb1 (f_X6_isSign k p0 62 M0) (fun v3 => zbr v3 0 (v3 = 0) (zb1 (f_X6_isSign k p0 61 M0) (fun v5 => zbr v5 0 (v5 = 0) (some (-1)) (some 2))) (some 1))) (some 0))
theorem c_X6_comparingSign (l : Launch) {w : zW} (hw : zWk w)  (p0 : Nat) (M0 : zM) (hp0 : ztag w.1 p0 = 7) : zCn l yX6_comparingSign cX6_comparingSign 1 (some .int) (1) 1 w [rn w p0] M0 ((f_X6_comparingSign w.1 p0 M0).map fun v => (M0, v)) := by
  have hT := hw.1
  refine zCn_ofP (own := RX6) (by decide) rfl hw (Nat.le_of_ble_eq_true rfl) [(0, rn w p0)] rfl ?_
  intro κ hl
  subst hl
  unfold f_X6_comparingSign
  refine zv_rload_n dX6_comparingSign_0 0 rfl ?_
  refine zv_bipush (z := 60) dX6_comparingSign_1 (by decide) ?_
  refine zv_pc (zv_callVi [iv 60] (c_X6_isSign κ.2.1 hw p0 60 M0 hp0) zmd_X6_isSign zwI_X6_isSign zwS_X6_isSign zwM_RX6_123 zcd_6 hp0 rfl (by decide) rfl (Nat.le_of_ble_eq_true rfl) dX6_comparingSign_3 (fun mh2 v1 h2 => ?_))
  obtain rfl := zpuE h2
  refine zv_if_eq (tgt := 11) dX6_comparingSign_6 (by decide) ?_ ?_
  · refine zv_rload_n dX6_comparingSign_11 0 rfl ?_
    refine zv_bipush (z := 62) dX6_comparingSign_12 (by decide) ?_
    refine zv_pc (zv_callVi [iv 62] (c_X6_isSign κ.2.1 hw p0 62 M0 hp0) zmd_X6_isSign zwI_X6_isSign zwS_X6_isSign zwM_RX6_123 zcd_6 hp0 rfl (by decide) rfl (Nat.le_of_ble_eq_true rfl) dX6_comparingSign_14 (fun mh4 v3 h4 => ?_))
    obtain rfl := zpuE h4
    refine zv_if_eq (tgt := 22) dX6_comparingSign_17 (by decide) ?_ ?_
    · refine zv_rload_n dX6_comparingSign_22 0 rfl ?_
      refine zv_bipush (z := 61) dX6_comparingSign_23 (by decide) ?_
      refine zv_pc (zv_callVi [iv 61] (c_X6_isSign κ.2.1 hw p0 61 M0 hp0) zmd_X6_isSign zwI_X6_isSign zwS_X6_isSign zwM_RX6_123 zcd_6 hp0 rfl (by decide) rfl (Nat.le_of_ble_eq_true rfl) dX6_comparingSign_25 (fun mh6 v5 h6 => ?_))
      obtain rfl := zpuE h6
      refine zv_if_eq (tgt := 35) dX6_comparingSign_28 (by decide) ?_ ?_
      · refine zv_iconst (z := (-1)) dX6_comparingSign_35 ?_
        exact zv_ret (fun h => h) (zv_iret dX6_comparingSign_36)
      refine zv_iconst (z := 2) dX6_comparingSign_31 ?_
      refine zv_goto (tgt := 36) dX6_comparingSign_32 (by decide) ?_
      exact zv_ret (fun h => h) (zv_iret dX6_comparingSign_36)
    refine zv_iconst (z := 1) dX6_comparingSign_20 ?_
    exact zv_ret (fun h => h) (zv_iret dX6_comparingSign_21)
  refine zv_iconst (z := 0) dX6_comparingSign_9 ?_
  exact zv_ret (fun h => h) (zv_iret dX6_comparingSign_10)

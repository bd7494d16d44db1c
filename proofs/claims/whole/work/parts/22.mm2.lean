def f_X11_step (k : zK)  (p0 : Nat) (p1 : Int) (p2 : Int) (p3 : Int) (p4 : Int) (M0 : zM) : Option zM :=
  zgd (0 ≤ M0 p0 28 ∧ M0 p0 28 < 2000) (zlt (zst M0 (zfr k p0 29) (M0 p0 28).toNat (p1)) (fun M1 => zgd (0 ≤ M1 p0 28 ∧ M1 p0 28 < 2000) (zlt (zst M1 (zfr k p0 30) (M1 p0 28).toNat (p2)) (fun M2 => zgd (0 ≤ M2 p0 28 ∧ M2 p0 28 < 2000) (zlt (zst M2 (zfr k p0 31) (M2 p0 28).toNat (p3)) (fun M3 => zgd (0 ≤ M3 p0 28 ∧ M3 p0 28 < 2000) (zlt (zst M3 (zfr k p0 32) (M3 p0 28).toNat (p4)) (fun M4 => zlt (zst M4 p0 28 ((M4 p0 28) + 1)) (fun M5 => some M5)))))))))
theorem c_X11_step (l : Launch) {w : zW} (hw : zWk w)  (p0 : Nat) (p1 : Int) (p2 : Int) (p3 : Int) (p4 : Int) (M0 : zM) (hp0 : ztag w.1 p0 = 12) : zCn l yX11_step cX11_step 5 none (0) 0 w [rn w p0, iv p1, iv p2, iv p3, iv p4] M0 ((f_X11_step w.1 p0 p1 p2 p3 p4 M0).map fun m => (m, (0 : Int))) := by
  have hT := hw.1
  refine zCn_ofV (own := RX11) (by decide) rfl hw (Nat.le_of_ble_eq_true rfl) [(0, rn w p0), (1, iv p1), (2, iv p2), (3, iv p3), (4, iv p4)] rfl ?_
  intro κ hl
  subst hl
  unfold f_X11_step
  refine zv_rload_n dX11_step_0 0 rfl ?_
  refine zg_RX11_92 dX11_step_1 hp0 ?_
  refine zv_rload_n dX11_step_4 0 rfl ?_
  refine zg_RX11_274 dX11_step_5 hp0 ?_
  refine zv_iload_n dX11_step_8 1 rfl ?_
  refine zv_iast dX11_step_9 (zta_11_29 hT hp0) (ztl_11_29 hT hp0) (by decide) (fun M1 => ?_)
  refine zv_rload_n dX11_step_10 0 rfl ?_
  refine zg_RX11_95 dX11_step_11 hp0 ?_
  refine zv_rload_n dX11_step_14 0 rfl ?_
  refine zg_RX11_274 dX11_step_15 hp0 ?_
  refine zv_iload_n dX11_step_18 2 rfl ?_
  refine zv_iast dX11_step_19 (zta_11_30 hT hp0) (ztl_11_30 hT hp0) (by decide) (fun M2 => ?_)
  refine zv_rload_n dX11_step_20 0 rfl ?_
  refine zg_RX11_98 dX11_step_21 hp0 ?_
  refine zv_rload_n dX11_step_24 0 rfl ?_
  refine zg_RX11_274 dX11_step_25 hp0 ?_
  refine zv_iload_n dX11_step_28 3 rfl ?_
  refine zv_iast dX11_step_29 (zta_11_31 hT hp0) (ztl_11_31 hT hp0) (by decide) (fun M3 => ?_)
  refine zv_rload_n dX11_step_30 0 rfl ?_
  refine zg_RX11_101 dX11_step_31 hp0 ?_
  refine zv_rload_n dX11_step_34 0 rfl ?_
  refine zg_RX11_274 dX11_step_35 hp0 ?_
  refine zv_iload dX11_step_38 4 rfl ?_
  refine zv_iast dX11_step_40 (zta_11_32 hT hp0) (ztl_11_32 hT hp0) (by decide) (fun M4 => ?_)
  refine zv_rload_n dX11_step_41 0 rfl ?_
  refine zv_dup dX11_step_42 rfl ?_
  refine zg_RX11_274 dX11_step_43 hp0 ?_
  refine zv_iconst (z := 1) dX11_step_46 ?_
  refine zv_iadd dX11_step_47 ?_
  refine zp_RX11_274 dX11_step_48 hp0 (fun M5 => ?_)
  exact zv_ret (fun h => h) (zv_vret (v := 0) dX11_step_51)
def fb_X11_closes_13 (k : zK)  (l0 : Nat) (M0 : zM) : Option ((zM) ⊕ (zM)) :=
  zbr (M0 l0 45) 0 (M0 l0 45 ≤ 0) (some (.inr M0)) (zgd (0 ≤ (M0 l0 45) - 1 ∧ (M0 l0 45) - 1 < 12) (zbr (M0 (zfr k l0 43) ((M0 l0 45) - 1).toNat) 1 (¬ M0 (zfr k l0 43) ((M0 l0 45) - 1).toNat = 1) (some (.inr M0)) (zlt (zst M0 l0 45 ((M0 l0 45) - 1)) (fun M1 => zb1 (f_X11_step k l0 1 0 0 0 M1) (fun M2 => some (.inl (M2)))))))
def fb_X11_closes_2 (k : zK)  (l0 : Nat) (y1 : Int) (M0 : zM) : Option ((Int × zM) ⊕ ((zM) ⊕ (zM × Int))) :=
  zbr y1 0 (y1 = 0) (some (.inr (.inr (M0, 0)))) (zbr (M0 l0 42) 0 (¬ M0 l0 42 = 0) (some (.inr (.inr (M0, 0)))) (zb1 (zw1 (fb_X11_closes_13 k l0) zfu M0) (fun M3 => zb1 (f_X11_is k l0 1111 M3) (fun v4 => zbr v4 0 (v4 = 0) (zgd (0 ≤ M3 l0 45 ∧ M3 l0 45 < 12) (zgd (0 ≤ M3 (zfr k l0 44) (M3 l0 45).toNat ∧ M3 (zfr k l0 44) (M3 l0 45).toNat ≤ 2147483647) (zb1 (zbr ((M3 (zfr k l0 44) (M3 l0 45).toNat) % 2) 1 (¬ (M3 (zfr k l0 44) (M3 l0 45).toNat) % 2 = 1) (some (M3)) (zb1 (f_X11_step k l0 2 0 0 0 M3) (fun M6 => some (M6)))) (fun M7 => zgd (0 ≤ M7 l0 45 ∧ M7 l0 45 < 12) (zgd (0 ≤ M7 (zfr k l0 44) (M7 l0 45).toNat ∧ M7 (zfr k l0 44) (M7 l0 45).toNat ≤ 2147483647) (zgd (0 ≤ M7 l0 45 ∧ M7 l0 45 < 12) (zlt (zst M7 (zfr k l0 44) (M7 l0 45).toNat (((M7 (zfr k l0 44) (M7 l0 45).toNat) / 2) * 2)) (fun M8 => zgd (0 ≤ M8 l0 45 ∧ M8 l0 45 < 12) (zb1 (zbr (M8 (zfr k l0 44) (M8 l0 45).toNat) 1 (M8 (zfr k l0 44) (M8 l0 45).toNat ≤ 1) (some (M8)) (zb1 (f_X11_step k l0 3 0 0 0 M8) (fun M9 => some (M9)))) (fun M10 => zgd (0 ≤ M10 l0 45 ∧ M10 l0 45 < 12) (zlt (zst M10 (zfr k l0 44) (M10 l0 45).toNat (0)) (fun M11 => zb1 (f_X11_is k l0 423 M11) (fun v12 => zbr v12 0 (v12 = 0) (zb1 (zbr (M11 l0 45) 0 (M11 l0 45 ≤ 0) (some (0)) (some (1))) (fun x14 => zbr x14 0 (¬ x14 = 0) (zbr (M11 l0 39) 41 (M11 l0 39 = 41) (zlt (zst M11 l0 45 ((M11 l0 45) - 1)) (fun M15 => zb1 (f_X11_next k l0 M15) (fun M16 => some (.inl (x14, M16))))) (zb1 (f_X11_errs k l0 M11) (fun M17 => some (.inr (.inr (M17, 0)))))) (some (.inr (.inr (M11, 0)))))) (zgd (0 ≤ M11 l0 45 ∧ M11 l0 45 < 12) (zlt (zst M11 (zfr k l0 44) (M11 l0 45).toNat (2)) (fun M18 => zb1 (f_X11_next k l0 M18) (fun M19 => some (.inr (.inr (M19, 1)))))))))))))))))))) (some (.inr (.inl M3)))))))
def f_X11_closes (k : zK)  (p0 : Nat) (M0 : zM) : Option (zM × Int) :=
  zsp1 (zw2 (fb_X11_closes_2 k p0) zfu 1 M0) (fun r => some (r)) (fun M20 => zgd (0 ≤ M20 p0 45 ∧ M20 p0 45 < 12) (zgd (0 ≤ M20 (zfr k p0 44) (M20 p0 45).toNat ∧ M20 (zfr k p0 44) (M20 p0 45).toNat ≤ 2147483647) (zb1 (zbr ((M20 (zfr k p0 44) (M20 p0 45).toNat) % 2) 1 (¬ (M20 (zfr k p0 44) (M20 p0 45).toNat) % 2 = 1) (some (M20)) (zb1 (f_X11_step k p0 2 0 0 0 M20) (fun M21 => some (M21)))) (fun M22 => zgd (0 ≤ M22 p0 45 ∧ M22 p0 45 < 12) (zgd (0 ≤ M22 (zfr k p0 44) (M22 p0 45).toNat ∧ M22 (zfr k p0 44) (M22 p0 45).toNat ≤ 2147483647) (zgd (0 ≤ M22 p0 45 ∧ M22 p0 45 < 12) (zlt (zst M22 (zfr k p0 44) (M22 p0 45).toNat ((((M22 (zfr k p0 44) (M22 p0 45).toNat) / 2) * 2) + 1)) (fun M23 => zb1 (f_X11_next k p0 M23) (fun M24 => some (M24, 1))))))))))
theorem vl_X11_closes_13 {κ : zC} {w : zW} (hw : zWk w)  (l0 : Nat) (g0 : ztag w.1 l0 = 12)  (E : (zM) → Prop) (hX : ∀  (M1 : zM), E M1 → zB cX11_closes RX11 2 (some .boolean) κ w (0, 0, 2) 56 [(0, rn w l0)] [] M1)  (M0 : zM) :
    zV cX11_closes RX11 2 (some .boolean) κ w (0, 0, 2) 13 [(0, rn w l0)] [] M0 (zw1 (fb_X11_closes_13 w.1 l0) zfu M0) E := by
  have hT := hw.1
  refine zv_loop1 (fun M0 => [(0, rn w l0)]) (fun M0 => M0) (fun M0 => ?_) M0
  unfold fb_X11_closes_13
  refine zv_rload_n dX11_closes_13 0 rfl ?_
  refine zg_RX11_288 dX11_closes_14 g0 ?_
  refine zv_if_le (tgt := 56) dX11_closes_17 (by decide) ?_ ?_
  · exact zv_sub (L' := [(0, rn w l0)]) [0] rfl (zv_exit (fun h => hX _ h))
  refine zv_rload_n dX11_closes_20 0 rfl ?_
  refine zg_RX11_112 dX11_closes_21 g0 ?_
  refine zv_rload_n dX11_closes_24 0 rfl ?_
  refine zg_RX11_288 dX11_closes_25 g0 ?_
  refine zv_iconst (z := 1) dX11_closes_28 ?_
  refine zv_isub dX11_closes_29 ?_
  refine zv_iald dX11_closes_30 (zta_11_43 hT g0) (ztl_11_43 hT g0) (by decide) ?_
  refine zv_iconst (z := 1) dX11_closes_31 ?_
  refine zv_icmp_ne (tgt := 56) dX11_closes_32 (by decide) ?_ ?_
  · exact zv_sub (L' := [(0, rn w l0)]) [0] rfl (zv_exit (fun h => hX _ h))
  refine zv_rload_n dX11_closes_35 0 rfl ?_
  refine zv_dup dX11_closes_36 rfl ?_
  refine zg_RX11_288 dX11_closes_37 g0 ?_
  refine zv_iconst (z := 1) dX11_closes_40 ?_
  refine zv_isub dX11_closes_41 ?_
  refine zp_RX11_288 dX11_closes_42 g0 (fun M1 => ?_)
  refine zv_rload_n dX11_closes_45 0 rfl ?_
  refine zv_iconst (z := 1) dX11_closes_46 ?_
  refine zv_iconst (z := 0) dX11_closes_47 ?_
  refine zv_iconst (z := 0) dX11_closes_48 ?_
  refine zv_iconst (z := 0) dX11_closes_49 ?_
  refine zv_vc (zv_callVv [iv 1, iv 0, iv 0, iv 0] (c_X11_step κ.2.1 hw l0 1 0 0 0 M1 g0) zmd_X11_step zwI_X11_step zwS_X11_step zwM_RX11_284 zcd_11 g0 rfl (by decide) rfl (Nat.le_of_ble_eq_true rfl) dX11_closes_50 (fun M2 _ _ => ?_))
  refine zv_goto (tgt := 13) dX11_closes_53 (by decide) ?_
  exact zv_sub (L' := [(0, rn w l0)]) [0] rfl (zv_exit (fun h => h))
set_option maxRecDepth 20000 in
theorem vl_X11_closes_2 {κ : zC} {w : zW} (hw : zWk w)  (l0 : Nat) (g0 : ztag w.1 l0 = 12)  (E : ((zM) ⊕ (zM × Int)) → Prop) (hX : ∀  (M1 : zM), E (.inl M1) → zB cX11_closes RX11 2 (some .boolean) κ w (0, 0, 2) 66 [(0, rn w l0)] [] M1) (hR : ∀ r, E (.inr r) → zRt κ w (0, 0, 2) 1 r) (y1 : Int) (M0 : zM) :
    zV cX11_closes RX11 2 (some .boolean) κ w (0, 0, 2) 2 [(1, iv y1), (0, rn w l0)] [] M0 (zw2 (fb_X11_closes_2 w.1 l0) zfu y1 M0) E := by
  have hT := hw.1
  refine zv_loop2 (fun y1 M0 => [(1, iv y1), (0, rn w l0)]) (fun y1 M0 => M0) (fun y1 M0 => ?_) y1 M0
  unfold fb_X11_closes_2
  refine zv_iload_n dX11_closes_2 0 rfl ?_
  refine zv_if_eq (tgt := 272) dX11_closes_3 (by decide) ?_ ?_
  · refine zv_iconst (z := 0) dX11_closes_272 ?_
    exact zv_ret (fun h => hR _ h) (zv_zrB (by decide) dX11_closes_273)
  refine zv_rload_n dX11_closes_6 1 rfl ?_
  refine zg_RX11_226 dX11_closes_7 g0 ?_
  refine zv_if_ne (tgt := 272) dX11_closes_10 (by decide) ?_ ?_
  · refine zv_iconst (z := 0) dX11_closes_272 ?_
    exact zv_ret (fun h => hR _ h) (zv_zrB (by decide) dX11_closes_273)
  refine zv_join1 56 (fun M3 => [(0, rn w l0)]) (fun M3 => []) (fun M3 => M3) (zv_sub (L' := [(0, rn w l0)]) [1] rfl (vl_X11_closes_13 hw l0 g0 _ (fun _ h => h) M0)) (fun M3 => ?_)
  refine zv_rload_n dX11_closes_56 0 rfl ?_
  refine zv_ldc2 (z := 1111) dX11_closes_57 zwK_RX11_291 (by decide) ?_
  refine zv_pc (zv_callVi [jv 1111] (c_X11_is κ.2.1 hw l0 1111 M3 g0) zmd_X11_is zwI_X11_is zwS_X11_is zwM_RX11_266 zcd_11 g0 rfl (by decide) rfl (Nat.le_of_ble_eq_true rfl) dX11_closes_60 (fun mh5 v4 h5 => ?_))
  obtain rfl := zpuE h5
  refine zv_if_eq (tgt := 119) dX11_closes_63 (by decide) ?_ ?_
  · refine zv_rload_n dX11_closes_119 0 rfl ?_
    refine zg_RX11_115 dX11_closes_120 g0 ?_
    refine zv_rload_n dX11_closes_123 0 rfl ?_
    refine zg_RX11_288 dX11_closes_124 g0 ?_
    refine zv_iald dX11_closes_127 (zta_11_44 hT g0) (ztl_11_44 hT g0) (by decide) ?_
    refine zv_iconst (z := 2) dX11_closes_128 ?_
    refine zv_iremc (by decide) dX11_closes_129 ?_
    refine zv_iconst (z := 1) dX11_closes_130 ?_
    refine zv_join1 142 (fun M7 => [(0, rn w l0)]) (fun M7 => []) (fun M7 => M7) ?_ (fun M7 => ?_)
    · refine zv_icmp_ne (tgt := 142) dX11_closes_131 (by decide) ?_ ?_
      · exact zv_sub (L' := [(0, rn w l0)]) [0] rfl (zv_exit (fun h => h))
      refine zv_rload_n dX11_closes_134 0 rfl ?_
      refine zv_iconst (z := 2) dX11_closes_135 ?_
      refine zv_iconst (z := 0) dX11_closes_136 ?_
      refine zv_iconst (z := 0) dX11_closes_137 ?_
      refine zv_iconst (z := 0) dX11_closes_138 ?_
      refine zv_vc (zv_callVv [iv 2, iv 0, iv 0, iv 0] (c_X11_step κ.2.1 hw l0 2 0 0 0 M3 g0) zmd_X11_step zwI_X11_step zwS_X11_step zwM_RX11_284 zcd_11 g0 rfl (by decide) rfl (Nat.le_of_ble_eq_true rfl) dX11_closes_139 (fun M6 _ _ => ?_))
      exact zv_sub (L' := [(0, rn w l0)]) [0] rfl (zv_exit (fun h => h))
    refine zv_rload_n dX11_closes_142 0 rfl ?_
    refine zg_RX11_115 dX11_closes_143 g0 ?_
    refine zv_rload_n dX11_closes_146 0 rfl ?_
    refine zg_RX11_288 dX11_closes_147 g0 ?_
    refine zv_rload_n dX11_closes_150 0 rfl ?_
    refine zg_RX11_115 dX11_closes_151 g0 ?_
    refine zv_rload_n dX11_closes_154 0 rfl ?_
    refine zg_RX11_288 dX11_closes_155 g0 ?_
    refine zv_iald dX11_closes_158 (zta_11_44 hT g0) (ztl_11_44 hT g0) (by decide) ?_
    refine zv_iconst (z := 2) dX11_closes_159 ?_
    refine zv_idivc (by decide) dX11_closes_160 ?_
    refine zv_iconst (z := 2) dX11_closes_161 ?_
    refine zv_imul dX11_closes_162 ?_
    refine zv_iast dX11_closes_163 (zta_11_44 hT g0) (ztl_11_44 hT g0) (by decide) (fun M8 => ?_)
    refine zv_rload_n dX11_closes_164 0 rfl ?_
    refine zg_RX11_115 dX11_closes_165 g0 ?_
    refine zv_rload_n dX11_closes_168 0 rfl ?_
    refine zg_RX11_288 dX11_closes_169 g0 ?_
    refine zv_iald dX11_closes_172 (zta_11_44 hT g0) (ztl_11_44 hT g0) (by decide) ?_
    refine zv_iconst (z := 1) dX11_closes_173 ?_
    refine zv_join1 185 (fun M10 => [(0, rn w l0)]) (fun M10 => []) (fun M10 => M10) ?_ (fun M10 => ?_)
    · refine zv_icmp_le (tgt := 185) dX11_closes_174 (by decide) ?_ ?_
      · exact zv_sub (L' := [(0, rn w l0)]) [0] rfl (zv_exit (fun h => h))
      refine zv_rload_n dX11_closes_177 0 rfl ?_
      refine zv_iconst (z := 3) dX11_closes_178 ?_
      refine zv_iconst (z := 0) dX11_closes_179 ?_
      refine zv_iconst (z := 0) dX11_closes_180 ?_
      refine zv_iconst (z := 0) dX11_closes_181 ?_
      refine zv_vc (zv_callVv [iv 3, iv 0, iv 0, iv 0] (c_X11_step κ.2.1 hw l0 3 0 0 0 M8 g0) zmd_X11_step zwI_X11_step zwS_X11_step zwM_RX11_284 zcd_11 g0 rfl (by decide) rfl (Nat.le_of_ble_eq_true rfl) dX11_closes_182 (fun M9 _ _ => ?_))
      exact zv_sub (L' := [(0, rn w l0)]) [0] rfl (zv_exit (fun h => h))
    refine zv_rload_n dX11_closes_185 0 rfl ?_
    refine zg_RX11_115 dX11_closes_186 g0 ?_
    refine zv_rload_n dX11_closes_189 0 rfl ?_
    refine zg_RX11_288 dX11_closes_190 g0 ?_
    refine zv_iconst (z := 0) dX11_closes_193 ?_
    refine zv_iast dX11_closes_194 (zta_11_44 hT g0) (ztl_11_44 hT g0) (by decide) (fun M11 => ?_)
    refine zv_rload_n dX11_closes_195 0 rfl ?_
    refine zv_ldc2 (z := 423) dX11_closes_196 zwK_RX11_293 (by decide) ?_
    refine zv_pc (zv_callVi [jv 423] (c_X11_is κ.2.1 hw l0 423 M11 g0) zmd_X11_is zwI_X11_is zwS_X11_is zwM_RX11_266 zcd_11 g0 rfl (by decide) rfl (Nat.le_of_ble_eq_true rfl) dX11_closes_199 (fun mh13 v12 h13 => ?_))
    obtain rfl := zpuE h13
    refine zv_if_eq (tgt := 221) dX11_closes_202 (by decide) ?_ ?_
    · refine zv_rload_n dX11_closes_221 0 rfl ?_
      refine zg_RX11_288 dX11_closes_222 g0 ?_
      refine zv_join1 233 (fun x14 => [(0, rn w l0)]) (fun x14 => [iv x14]) (fun x14 => M11) ?_ (fun x14 => ?_)
      · refine zv_if_le (tgt := 232) dX11_closes_225 (by decide) ?_ ?_
        · refine zv_iconst (z := 0) dX11_closes_232 ?_
          exact zv_sub (L' := [(0, rn w l0)]) [0] rfl (zv_exit (fun h => h))
        refine zv_iconst (z := 1) dX11_closes_228 ?_
        refine zv_goto (tgt := 233) dX11_closes_229 (by decide) ?_
        exact zv_sub (L' := [(0, rn w l0)]) [0] rfl (zv_exit (fun h => h))
      refine zv_istore_np (L' := [(1, iv x14), (0, rn w l0)]) (by rfl) dX11_closes_233 (by decide) rfl ?_
      refine zv_iload_n dX11_closes_234 0 rfl ?_
      refine zv_if_ne (tgt := 240) dX11_closes_235 (by decide) ?_ ?_
      · refine zv_rload_n dX11_closes_240 1 rfl ?_
        refine zg_RX11_220 dX11_closes_241 g0 ?_
        refine zv_bipush (z := 41) dX11_closes_244 (by decide) ?_
        refine zv_icmp_eq (tgt := 255) dX11_closes_246 (by decide) ?_ ?_
        · refine zv_rload_n dX11_closes_255 1 rfl ?_
          refine zv_dup dX11_closes_256 rfl ?_
          refine zg_RX11_288 dX11_closes_257 g0 ?_
          refine zv_iconst (z := 1) dX11_closes_260 ?_
          refine zv_isub dX11_closes_261 ?_
          refine zp_RX11_288 dX11_closes_262 g0 (fun M15 => ?_)
          refine zv_rload_n dX11_closes_265 1 rfl ?_
          refine zv_vc (zv_callVv [] (c_X11_next κ.2.1 hw l0 M15 g0) zmd_X11_next zwI_X11_next zwS_X11_next zwM_RX11_233 zcd_11 g0 rfl (by decide) rfl (Nat.le_of_ble_eq_true rfl) dX11_closes_266 (fun M16 _ _ => ?_))
          refine zv_goto (tgt := 2) dX11_closes_269 (by decide) ?_
          exact zv_sub (L' := [(1, iv x14), (0, rn w l0)]) [0, 1] rfl (zv_exit (fun h => h))
        refine zv_rload_n dX11_closes_249 1 rfl ?_
        refine zv_vc (zv_callVv [] (c_X11_errs κ.2.1 hw l0 M11 g0) zmd_X11_errs zwI_X11_errs zwS_X11_errs zwM_RX11_230 zcd_11 g0 rfl (by decide) rfl (Nat.le_of_ble_eq_true rfl) dX11_closes_250 (fun M17 _ _ => ?_))
        refine zv_iconst (z := 0) dX11_closes_253 ?_
        exact zv_ret (fun h => hR _ h) (zv_zrB (by decide) dX11_closes_254)
      refine zv_iconst (z := 0) dX11_closes_238 ?_
      exact zv_ret (fun h => hR _ h) (zv_zrB (by decide) dX11_closes_239)
    refine zv_rload_n dX11_closes_205 0 rfl ?_
    refine zg_RX11_115 dX11_closes_206 g0 ?_
    refine zv_rload_n dX11_closes_209 0 rfl ?_
    refine zg_RX11_288 dX11_closes_210 g0 ?_
    refine zv_iconst (z := 2) dX11_closes_213 ?_
    refine zv_iast dX11_closes_214 (zta_11_44 hT g0) (ztl_11_44 hT g0) (by decide) (fun M18 => ?_)
    refine zv_rload_n dX11_closes_215 0 rfl ?_
    refine zv_vc (zv_callVv [] (c_X11_next κ.2.1 hw l0 M18 g0) zmd_X11_next zwI_X11_next zwS_X11_next zwM_RX11_233 zcd_11 g0 rfl (by decide) rfl (Nat.le_of_ble_eq_true rfl) dX11_closes_216 (fun M19 _ _ => ?_))
    refine zv_iconst (z := 1) dX11_closes_219 ?_
    exact zv_ret (fun h => hR _ h) (zv_zrB (by decide) dX11_closes_220)
  exact zv_sub (L' := [(0, rn w l0)]) [0] rfl (zv_exit (fun h => hX _ h))
theorem c_X11_closes (l : Launch) {w : zW} (hw : zWk w)  (p0 : Nat) (M0 : zM) (hp0 : ztag w.1 p0 = 12) : zCn l yX11_closes cX11_closes 2 (some .boolean) (2) 1 w [rn w p0] M0 (f_X11_closes w.1 p0 M0) := by
  have hT := hw.1
  refine zCn_of (own := RX11) (by decide) rfl hw (Nat.le_of_ble_eq_true rfl) [(0, rn w p0)] rfl ?_
  intro κ hl
  subst hl
  unfold f_X11_closes
  refine zv_iconst (z := 1) dX11_closes_0 ?_
  refine zv_istore_np (L' := [(1, iv 1), (0, rn w p0)]) (by rfl) dX11_closes_1 (by decide) rfl ?_
  refine zv_joinS1 (fun r => r) 66 (fun M20 => [(0, rn w p0)]) (fun M20 => []) (fun M20 => M20) (zv_sub (L' := [(1, iv 1), (0, rn w p0)]) [0, 1] rfl (vl_X11_closes_2 hw p0 hp0 _ (fun _ h => ((fun h => h)) h) (fun _ h => ((fun h => h)) h) 1 M0)) (fun M20 => ?_)
  refine zv_rload_n dX11_closes_66 0 rfl ?_
  refine zg_RX11_115 dX11_closes_67 hp0 ?_
  refine zv_rload_n dX11_closes_70 0 rfl ?_
  refine zg_RX11_288 dX11_closes_71 hp0 ?_
  refine zv_iald dX11_closes_74 (zta_11_44 hT hp0) (ztl_11_44 hT hp0) (by decide) ?_
  refine zv_iconst (z := 2) dX11_closes_75 ?_
  refine zv_iremc (by decide) dX11_closes_76 ?_
  refine zv_iconst (z := 1) dX11_closes_77 ?_
  refine zv_join1 89 (fun M22 => [(0, rn w p0)]) (fun M22 => []) (fun M22 => M22) ?_ (fun M22 => ?_)
  · refine zv_icmp_ne (tgt := 89) dX11_closes_78 (by decide) ?_ ?_
    · exact zv_sub (L' := [(0, rn w p0)]) [0] rfl (zv_exit (fun h => h))
    refine zv_rload_n dX11_closes_81 0 rfl ?_
    refine zv_iconst (z := 2) dX11_closes_82 ?_
    refine zv_iconst (z := 0) dX11_closes_83 ?_
    refine zv_iconst (z := 0) dX11_closes_84 ?_
    refine zv_iconst (z := 0) dX11_closes_85 ?_
    refine zv_vc (zv_callVv [iv 2, iv 0, iv 0, iv 0] (c_X11_step κ.2.1 hw p0 2 0 0 0 M20 hp0) zmd_X11_step zwI_X11_step zwS_X11_step zwM_RX11_284 zcd_11 hp0 rfl (by decide) rfl (Nat.le_of_ble_eq_true rfl) dX11_closes_86 (fun M21 _ _ => ?_))
    exact zv_sub (L' := [(0, rn w p0)]) [0] rfl (zv_exit (fun h => h))
  refine zv_rload_n dX11_closes_89 0 rfl ?_
  refine zg_RX11_115 dX11_closes_90 hp0 ?_
  refine zv_rload_n dX11_closes_93 0 rfl ?_
  refine zg_RX11_288 dX11_closes_94 hp0 ?_
  refine zv_rload_n dX11_closes_97 0 rfl ?_
  refine zg_RX11_115 dX11_closes_98 hp0 ?_
  refine zv_rload_n dX11_closes_101 0 rfl ?_
  refine zg_RX11_288 dX11_closes_102 hp0 ?_
  refine zv_iald dX11_closes_105 (zta_11_44 hT hp0) (ztl_11_44 hT hp0) (by decide) ?_
  refine zv_iconst (z := 2) dX11_closes_106 ?_
  refine zv_idivc (by decide) dX11_closes_107 ?_
  refine zv_iconst (z := 2) dX11_closes_108 ?_
  refine zv_imul dX11_closes_109 ?_
  refine zv_iconst (z := 1) dX11_closes_110 ?_
  refine zv_iadd dX11_closes_111 ?_
  refine zv_iast dX11_closes_112 (zta_11_44 hT hp0) (ztl_11_44 hT hp0) (by decide) (fun M23 => ?_)
  refine zv_rload_n dX11_closes_113 0 rfl ?_
  refine zv_vc (zv_callVv [] (c_X11_next κ.2.1 hw p0 M23 hp0) zmd_X11_next zwI_X11_next zwS_X11_next zwM_RX11_233 zcd_11 hp0 rfl (by decide) rfl (Nat.le_of_ble_eq_true rfl) dX11_closes_114 (fun M24 _ _ => ?_))
  refine zv_iconst (z := 1) dX11_closes_117 ?_
  exact zv_ret (fun h => h) (zv_zrB (by decide) dX11_closes_118)
def fb_X11_copies_50 (k : zK)  (l0 : Nat) (l1 : Int) (l2 : Int) (y3 : Int) (M0 : zM) : Option ((Int × zM) ⊕ (zM)) :=
  zbr y3 256 (256 ≤ y3) (some (.inr M0)) (zgd (0 ≤ (256 * l1) + y3 ∧ (256 * l1) + y3 < 1024) (zgd (0 ≤ (256 * l2) + y3 ∧ (256 * l2) + y3 < 1024) (zlt (zst M0 (zfr k l0 5) ((256 * l2) + y3).toNat (M0 (zfr k l0 5) ((256 * l1) + y3).toNat)) (fun M5 => zgd (0 ≤ (256 * l1) + y3 ∧ (256 * l1) + y3 < 1024) (zgd (0 ≤ (256 * l2) + y3 ∧ (256 * l2) + y3 < 1024) (zlt (zst M5 (zfr k l0 6) ((256 * l2) + y3).toNat (M5 (zfr k l0 6) ((256 * l1) + y3).toNat)) (fun M6 => zgd (0 ≤ (256 * l1) + y3 ∧ (256 * l1) + y3 < 1024) (zgd (0 ≤ (256 * l2) + y3 ∧ (256 * l2) + y3 < 1024) (zlt (zst M6 (zfr k l0 7) ((256 * l2) + y3).toNat (M6 (zfr k l0 7) ((256 * l1) + y3).toNat)) (fun M7 => zgd (0 ≤ (256 * l1) + y3 ∧ (256 * l1) + y3 < 1024) (zgd (0 ≤ (256 * l2) + y3 ∧ (256 * l2) + y3 < 1024) (zlt (zst M7 (zfr k l0 8) ((256 * l2) + y3).toNat (M7 (zfr k l0 8) ((256 * l1) + y3).toNat)) (fun M8 => zlt (y3 + 1) (fun x9 => some (.inl (x9, M8))))))))))))))))
def fb_X11_copies_161 (k : zK)  (l0 : Nat) (l1 : Int) (l2 : Int) (y3 : Int) (M0 : zM) : Option ((Int × zM) ⊕ (zM)) :=
  zbr y3 80 (80 ≤ y3) (some (.inr M0)) (zgd (0 ≤ (80 * l1) + y3 ∧ (80 * l1) + y3 < 320) (zgd (0 ≤ (80 * l2) + y3 ∧ (80 * l2) + y3 < 320) (zlt (zst M0 (zfr k l0 9) ((80 * l2) + y3).toNat (M0 (zfr k l0 9) ((80 * l1) + y3).toNat)) (fun M11 => zgd (0 ≤ (80 * l1) + y3 ∧ (80 * l1) + y3 < 320) (zgd ((M11 (zfr k l0 18) ((80 * l1) + y3).toNat = 0 ∨ M11 (zfr k l0 18) ((80 * l1) + y3).toNat = 1) ∧ 0 ≤ (80 * l2) + y3 ∧ (80 * l2) + y3 < 320) (zlt (zst M11 (zfr k l0 18) ((80 * l2) + y3).toNat (M11 (zfr k l0 18) ((80 * l1) + y3).toNat)) (fun M12 => zlt (y3 + 1) (fun x13 => some (.inl (x13, M12))))))))))
def fb_X11_copies_219 (k : zK)  (l0 : Nat) (l1 : Int) (l2 : Int) (y3 : Int) (M0 : zM) : Option ((Int × zM) ⊕ (zM)) :=
  zbr y3 60 (60 ≤ y3) (some (.inr M0)) (zgd (0 ≤ (60 * l1) + y3 ∧ (60 * l1) + y3 < 240) (zgd (0 ≤ (60 * l2) + y3 ∧ (60 * l2) + y3 < 240) (zlt (zst M0 (zfr k l0 10) ((60 * l2) + y3).toNat (M0 (zfr k l0 10) ((60 * l1) + y3).toNat)) (fun M15 => zgd (0 ≤ (60 * l1) + y3 ∧ (60 * l1) + y3 < 240) (zgd (0 ≤ (60 * l2) + y3 ∧ (60 * l2) + y3 < 240) (zlt (zst M15 (zfr k l0 11) ((60 * l2) + y3).toNat (M15 (zfr k l0 11) ((60 * l1) + y3).toNat)) (fun M16 => zgd (0 ≤ (60 * l1) + y3 ∧ (60 * l1) + y3 < 240) (zgd (0 ≤ (60 * l2) + y3 ∧ (60 * l2) + y3 < 240) (zlt (zst M16 (zfr k l0 12) ((60 * l2) + y3).toNat (M16 (zfr k l0 12) ((60 * l1) + y3).toNat)) (fun M17 => zgd (0 ≤ (60 * l1) + y3 ∧ (60 * l1) + y3 < 240) (zgd (0 ≤ (60 * l2) + y3 ∧ (60 * l2) + y3 < 240) (zlt (zst M17 (zfr k l0 13) ((60 * l2) + y3).toNat (M17 (zfr k l0 13) ((60 * l1) + y3).toNat)) (fun M18 => zlt (y3 + 1) (fun x19 => some (.inl (x19, M18))))))))))))))))
def fb_X11_copies_321 (k : zK)  (l0 : Nat) (l1 : Int) (l2 : Int) (y3 : Int) (M0 : zM) : Option ((Int × zM) ⊕ (zM)) :=
  zbr y3 10 (10 ≤ y3) (some (.inr M0)) (zgd (0 ≤ (10 * l1) + y3 ∧ (10 * l1) + y3 < 40) (zgd (0 ≤ (10 * l2) + y3 ∧ (10 * l2) + y3 < 40) (zlt (zst M0 (zfr k l0 14) ((10 * l2) + y3).toNat (M0 (zfr k l0 14) ((10 * l1) + y3).toNat)) (fun M21 => zlt (y3 + 1) (fun x22 => some (.inl (x22, M21)))))))
def fb_X11_copies_357 (k : zK)  (l0 : Nat) (l1 : Int) (l2 : Int) (y3 : Int) (M0 : zM) : Option ((Int × zM) ⊕ (zM)) :=
  zbr y3 40 (40 ≤ y3) (some (.inr M0)) (zgd (0 ≤ (40 * l1) + y3 ∧ (40 * l1) + y3 < 160) (zgd ((M0 (zfr k l0 19) ((40 * l1) + y3).toNat = 0 ∨ M0 (zfr k l0 19) ((40 * l1) + y3).toNat = 1) ∧ 0 ≤ (40 * l2) + y3 ∧ (40 * l2) + y3 < 160) (zlt (zst M0 (zfr k l0 19) ((40 * l2) + y3).toNat (M0 (zfr k l0 19) ((40 * l1) + y3).toNat)) (fun M24 => zgd (0 ≤ (40 * l1) + y3 ∧ (40 * l1) + y3 < 160) (zgd (0 ≤ (40 * l2) + y3 ∧ (40 * l2) + y3 < 160) (zlt (zst M24 (zfr k l0 15) ((40 * l2) + y3).toNat (M24 (zfr k l0 15) ((40 * l1) + y3).toNat)) (fun M25 => zgd (0 ≤ (40 * l1) + y3 ∧ (40 * l1) + y3 < 160) (zgd (0 ≤ (40 * l2) + y3 ∧ (40 * l2) + y3 < 160) (zlt (zst M25 (zfr k l0 16) ((40 * l2) + y3).toNat (M25 (zfr k l0 16) ((40 * l1) + y3).toNat)) (fun M26 => zgd (0 ≤ (40 * l1) + y3 ∧ (40 * l1) + y3 < 160) (zgd (0 ≤ (40 * l2) + y3 ∧ (40 * l2) + y3 < 160) (zlt (zst M26 (zfr k l0 17) ((40 * l2) + y3).toNat (M26 (zfr k l0 17) ((40 * l1) + y3).toNat)) (fun M27 => zlt (y3 + 1) (fun x28 => some (.inl (x28, M27))))))))))))))))
def f_X11_copies (k : zK)  (p0 : Nat) (p1 : Int) (p2 : Int) (M0 : zM) : Option zM :=
  zgd (0 ≤ p1 ∧ p1 < 4) (zgd (0 ≤ p2 ∧ p2 < 4) (zlt (zst M0 (zfr k p0 1) p2.toNat (M0 (zfr k p0 1) p1.toNat)) (fun M1 => zgd (0 ≤ p1 ∧ p1 < 4) (zgd (0 ≤ p2 ∧ p2 < 4) (zlt (zst M1 (zfr k p0 2) p2.toNat (M1 (zfr k p0 2) p1.toNat)) (fun M2 => zgd (0 ≤ p1 ∧ p1 < 4) (zgd (0 ≤ p2 ∧ p2 < 4) (zlt (zst M2 (zfr k p0 3) p2.toNat (M2 (zfr k p0 3) p1.toNat)) (fun M3 => zgd (0 ≤ p1 ∧ p1 < 4) (zgd (0 ≤ p2 ∧ p2 < 4) (zlt (zst M3 (zfr k p0 4) p2.toNat (M3 (zfr k p0 4) p1.toNat)) (fun M4 => zb1 (zw2 (fb_X11_copies_50 k p0 p1 p2) zfu 0 M4) (fun M10 => zb1 (zw2 (fb_X11_copies_161 k p0 p1 p2) zfu 0 M10) (fun M14 => zb1 (zw2 (fb_X11_copies_219 k p0 p1 p2) zfu 0 M14) (fun M20 => zb1 (zw2 (fb_X11_copies_321 k p0 p1 p2) zfu 0 M20) (fun M23 => zb1 (zw2 (fb_X11_copies_357 k p0 p1 p2) zfu 0 M23) (fun M29 => some M29)))))))))))))))))
set_option maxRecDepth 20000 in
theorem vl_X11_copies_50 {κ : zC} {w : zW} (hw : zWk w)  (l0 : Nat) (l1 : Int) (l2 : Int) (g0 : ztag w.1 l0 = 12)  (E : (zM) → Prop) (hX : ∀  (M1 : zM), E M1 → zB cX11_copies RX11 4 none κ w (0, 0, 0) 159 [(0, rn w l0), (1, iv l1), (2, iv l2)] [] M1)  (y3 : Int) (M0 : zM) :
    zV cX11_copies RX11 4 none κ w (0, 0, 0) 50 [(3, iv y3), (0, rn w l0), (1, iv l1), (2, iv l2)] [] M0 (zw2 (fb_X11_copies_50 w.1 l0 l1 l2) zfu y3 M0) E := by
  have hT := hw.1
  refine zv_loop2 (fun y3 M0 => [(3, iv y3), (0, rn w l0), (1, iv l1), (2, iv l2)]) (fun y3 M0 => M0) (fun y3 M0 => ?_) y3 M0
  unfold fb_X11_copies_50
  refine zv_iload_n dX11_copies_50 0 rfl ?_
  refine zv_sipush (z := 256) dX11_copies_51 (by decide) ?_
  refine zv_icmp_ge (tgt := 159) dX11_copies_54 (by decide) ?_ ?_
  · exact zv_sub (L' := [(0, rn w l0), (1, iv l1), (2, iv l2)]) [1, 2, 3] rfl (zv_exit (fun h => hX _ h))
  refine zv_rload_n dX11_copies_57 1 rfl ?_
  refine zg_RX11_25 dX11_copies_58 g0 ?_
  refine zv_sipush (z := 256) dX11_copies_61 (by decide) ?_
  refine zv_iload_n dX11_copies_64 3 rfl ?_
  refine zv_imul dX11_copies_65 ?_
  refine zv_iload_n dX11_copies_66 0 rfl ?_
  refine zv_iadd dX11_copies_67 ?_
  refine zv_rload_n dX11_copies_68 1 rfl ?_
  refine zg_RX11_25 dX11_copies_69 g0 ?_
  refine zv_sipush (z := 256) dX11_copies_72 (by decide) ?_
  refine zv_iload_n dX11_copies_75 2 rfl ?_
  refine zv_imul dX11_copies_76 ?_
  refine zv_iload_n dX11_copies_77 0 rfl ?_
  refine zv_iadd dX11_copies_78 ?_
  refine zv_iald dX11_copies_79 (zta_11_5 hT g0) (ztl_11_5 hT g0) (by decide) ?_
  refine zv_iast dX11_copies_80 (zta_11_5 hT g0) (ztl_11_5 hT g0) (by decide) (fun M5 => ?_)
  refine zv_rload_n dX11_copies_81 1 rfl ?_
  refine zg_RX11_28 dX11_copies_82 g0 ?_
  refine zv_sipush (z := 256) dX11_copies_85 (by decide) ?_
  refine zv_iload_n dX11_copies_88 3 rfl ?_
  refine zv_imul dX11_copies_89 ?_
  refine zv_iload_n dX11_copies_90 0 rfl ?_
  refine zv_iadd dX11_copies_91 ?_
  refine zv_rload_n dX11_copies_92 1 rfl ?_
  refine zg_RX11_28 dX11_copies_93 g0 ?_
  refine zv_sipush (z := 256) dX11_copies_96 (by decide) ?_
  refine zv_iload_n dX11_copies_99 2 rfl ?_
  refine zv_imul dX11_copies_100 ?_
  refine zv_iload_n dX11_copies_101 0 rfl ?_
  refine zv_iadd dX11_copies_102 ?_
  refine zv_iald dX11_copies_103 (zta_11_6 hT g0) (ztl_11_6 hT g0) (by decide) ?_
  refine zv_iast dX11_copies_104 (zta_11_6 hT g0) (ztl_11_6 hT g0) (by decide) (fun M6 => ?_)
  refine zv_rload_n dX11_copies_105 1 rfl ?_
  refine zg_RX11_31 dX11_copies_106 g0 ?_
  refine zv_sipush (z := 256) dX11_copies_109 (by decide) ?_
  refine zv_iload_n dX11_copies_112 3 rfl ?_
  refine zv_imul dX11_copies_113 ?_
  refine zv_iload_n dX11_copies_114 0 rfl ?_
  refine zv_iadd dX11_copies_115 ?_
  refine zv_rload_n dX11_copies_116 1 rfl ?_
  refine zg_RX11_31 dX11_copies_117 g0 ?_
  refine zv_sipush (z := 256) dX11_copies_120 (by decide) ?_
  refine zv_iload_n dX11_copies_123 2 rfl ?_
  refine zv_imul dX11_copies_124 ?_
  refine zv_iload_n dX11_copies_125 0 rfl ?_
  refine zv_iadd dX11_copies_126 ?_
  refine zv_iald dX11_copies_127 (zta_11_7 hT g0) (ztl_11_7 hT g0) (by decide) ?_
  refine zv_iast dX11_copies_128 (zta_11_7 hT g0) (ztl_11_7 hT g0) (by decide) (fun M7 => ?_)
  refine zv_rload_n dX11_copies_129 1 rfl ?_
  refine zg_RX11_34 dX11_copies_130 g0 ?_
  refine zv_sipush (z := 256) dX11_copies_133 (by decide) ?_
  refine zv_iload_n dX11_copies_136 3 rfl ?_
  refine zv_imul dX11_copies_137 ?_
  refine zv_iload_n dX11_copies_138 0 rfl ?_
  refine zv_iadd dX11_copies_139 ?_
  refine zv_rload_n dX11_copies_140 1 rfl ?_
  refine zg_RX11_34 dX11_copies_141 g0 ?_
  refine zv_sipush (z := 256) dX11_copies_144 (by decide) ?_
  refine zv_iload_n dX11_copies_147 2 rfl ?_
  refine zv_imul dX11_copies_148 ?_
  refine zv_iload_n dX11_copies_149 0 rfl ?_
  refine zv_iadd dX11_copies_150 ?_
  refine zv_iald dX11_copies_151 (zta_11_8 hT g0) (ztl_11_8 hT g0) (by decide) ?_
  refine zv_iast dX11_copies_152 (zta_11_8 hT g0) (ztl_11_8 hT g0) (by decide) (fun M8 => ?_)
  refine zv_iinc dX11_copies_153 0 rfl (fun x9 => [(3, iv x9), (0, rn w l0), (1, iv l1), (2, iv l2)]) (by decide) (fun _ => rfl) (fun x9 => ?_)
  refine zv_goto (tgt := 50) dX11_copies_156 (by decide) ?_
  exact zv_sub (L' := [(3, iv x9), (0, rn w l0), (1, iv l1), (2, iv l2)]) [0, 1, 2, 3] rfl (zv_exit (fun h => h))
theorem vl_X11_copies_161 {κ : zC} {w : zW} (hw : zWk w)  (l0 : Nat) (l1 : Int) (l2 : Int) (g0 : ztag w.1 l0 = 12)  (E : (zM) → Prop) (hX : ∀  (M1 : zM), E M1 → zB cX11_copies RX11 4 none κ w (0, 0, 0) 217 [(0, rn w l0), (1, iv l1), (2, iv l2)] [] M1)  (y3 : Int) (M0 : zM) :
    zV cX11_copies RX11 4 none κ w (0, 0, 0) 161 [(3, iv y3), (0, rn w l0), (1, iv l1), (2, iv l2)] [] M0 (zw2 (fb_X11_copies_161 w.1 l0 l1 l2) zfu y3 M0) E := by
  have hT := hw.1
  refine zv_loop2 (fun y3 M0 => [(3, iv y3), (0, rn w l0), (1, iv l1), (2, iv l2)]) (fun y3 M0 => M0) (fun y3 M0 => ?_) y3 M0
  unfold fb_X11_copies_161
  refine zv_iload_n dX11_copies_161 0 rfl ?_
  refine zv_bipush (z := 80) dX11_copies_162 (by decide) ?_
  refine zv_icmp_ge (tgt := 217) dX11_copies_164 (by decide) ?_ ?_
  · exact zv_sub (L' := [(0, rn w l0), (1, iv l1), (2, iv l2)]) [1, 2, 3] rfl (zv_exit (fun h => hX _ h))
  refine zv_rload_n dX11_copies_167 1 rfl ?_
  refine zg_RX11_37 dX11_copies_168 g0 ?_
  refine zv_bipush (z := 80) dX11_copies_171 (by decide) ?_
  refine zv_iload_n dX11_copies_173 3 rfl ?_
  refine zv_imul dX11_copies_174 ?_
  refine zv_iload_n dX11_copies_175 0 rfl ?_
  refine zv_iadd dX11_copies_176 ?_
  refine zv_rload_n dX11_copies_177 1 rfl ?_
  refine zg_RX11_37 dX11_copies_178 g0 ?_
  refine zv_bipush (z := 80) dX11_copies_181 (by decide) ?_
  refine zv_iload_n dX11_copies_183 2 rfl ?_
  refine zv_imul dX11_copies_184 ?_
  refine zv_iload_n dX11_copies_185 0 rfl ?_
  refine zv_iadd dX11_copies_186 ?_
  refine zv_iald dX11_copies_187 (zta_11_9 hT g0) (ztl_11_9 hT g0) (by decide) ?_
  refine zv_iast dX11_copies_188 (zta_11_9 hT g0) (ztl_11_9 hT g0) (by decide) (fun M11 => ?_)
  refine zv_rload_n dX11_copies_189 1 rfl ?_
  refine zg_RX11_64 dX11_copies_190 g0 ?_
  refine zv_bipush (z := 80) dX11_copies_193 (by decide) ?_
  refine zv_iload_n dX11_copies_195 3 rfl ?_
  refine zv_imul dX11_copies_196 ?_
  refine zv_iload_n dX11_copies_197 0 rfl ?_
  refine zv_iadd dX11_copies_198 ?_
  refine zv_rload_n dX11_copies_199 1 rfl ?_
  refine zg_RX11_64 dX11_copies_200 g0 ?_
  refine zv_bipush (z := 80) dX11_copies_203 (by decide) ?_
  refine zv_iload_n dX11_copies_205 2 rfl ?_
  refine zv_imul dX11_copies_206 ?_
  refine zv_iload_n dX11_copies_207 0 rfl ?_
  refine zv_iadd dX11_copies_208 ?_
  refine zv_zald dX11_copies_209 (zta_11_18 hT g0) (ztl_11_18 hT g0) (by decide) ?_
  refine zv_zast dX11_copies_210 (zta_11_18 hT g0) (ztl_11_18 hT g0) (by decide) (fun M12 => ?_)
  refine zv_iinc dX11_copies_211 0 rfl (fun x13 => [(3, iv x13), (0, rn w l0), (1, iv l1), (2, iv l2)]) (by decide) (fun _ => rfl) (fun x13 => ?_)
  refine zv_goto (tgt := 161) dX11_copies_214 (by decide) ?_
  exact zv_sub (L' := [(3, iv x13), (0, rn w l0), (1, iv l1), (2, iv l2)]) [0, 1, 2, 3] rfl (zv_exit (fun h => h))
set_option maxRecDepth 20000 in
theorem vl_X11_copies_219 {κ : zC} {w : zW} (hw : zWk w)  (l0 : Nat) (l1 : Int) (l2 : Int) (g0 : ztag w.1 l0 = 12)  (E : (zM) → Prop) (hX : ∀  (M1 : zM), E M1 → zB cX11_copies RX11 4 none κ w (0, 0, 0) 319 [(0, rn w l0), (1, iv l1), (2, iv l2)] [] M1)  (y3 : Int) (M0 : zM) :
    zV cX11_copies RX11 4 none κ w (0, 0, 0) 219 [(3, iv y3), (0, rn w l0), (1, iv l1), (2, iv l2)] [] M0 (zw2 (fb_X11_copies_219 w.1 l0 l1 l2) zfu y3 M0) E := by
  have hT := hw.1
  refine zv_loop2 (fun y3 M0 => [(3, iv y3), (0, rn w l0), (1, iv l1), (2, iv l2)]) (fun y3 M0 => M0) (fun y3 M0 => ?_) y3 M0
  unfold fb_X11_copies_219
  refine zv_iload_n dX11_copies_219 0 rfl ?_
  refine zv_bipush (z := 60) dX11_copies_220 (by decide) ?_
  refine zv_icmp_ge (tgt := 319) dX11_copies_222 (by decide) ?_ ?_
  · exact zv_sub (L' := [(0, rn w l0), (1, iv l1), (2, iv l2)]) [1, 2, 3] rfl (zv_exit (fun h => hX _ h))
  refine zv_rload_n dX11_copies_225 1 rfl ?_
  refine zg_RX11_40 dX11_copies_226 g0 ?_
  refine zv_bipush (z := 60) dX11_copies_229 (by decide) ?_
  refine zv_iload_n dX11_copies_231 3 rfl ?_
  refine zv_imul dX11_copies_232 ?_
  refine zv_iload_n dX11_copies_233 0 rfl ?_
  refine zv_iadd dX11_copies_234 ?_
  refine zv_rload_n dX11_copies_235 1 rfl ?_
  refine zg_RX11_40 dX11_copies_236 g0 ?_
  refine zv_bipush (z := 60) dX11_copies_239 (by decide) ?_
  refine zv_iload_n dX11_copies_241 2 rfl ?_
  refine zv_imul dX11_copies_242 ?_
  refine zv_iload_n dX11_copies_243 0 rfl ?_
  refine zv_iadd dX11_copies_244 ?_
  refine zv_iald dX11_copies_245 (zta_11_10 hT g0) (ztl_11_10 hT g0) (by decide) ?_
  refine zv_iast dX11_copies_246 (zta_11_10 hT g0) (ztl_11_10 hT g0) (by decide) (fun M15 => ?_)
  refine zv_rload_n dX11_copies_247 1 rfl ?_
  refine zg_RX11_43 dX11_copies_248 g0 ?_
  refine zv_bipush (z := 60) dX11_copies_251 (by decide) ?_
  refine zv_iload_n dX11_copies_253 3 rfl ?_
  refine zv_imul dX11_copies_254 ?_
  refine zv_iload_n dX11_copies_255 0 rfl ?_
  refine zv_iadd dX11_copies_256 ?_
  refine zv_rload_n dX11_copies_257 1 rfl ?_
  refine zg_RX11_43 dX11_copies_258 g0 ?_
  refine zv_bipush (z := 60) dX11_copies_261 (by decide) ?_
  refine zv_iload_n dX11_copies_263 2 rfl ?_
  refine zv_imul dX11_copies_264 ?_
  refine zv_iload_n dX11_copies_265 0 rfl ?_
  refine zv_iadd dX11_copies_266 ?_
  refine zv_iald dX11_copies_267 (zta_11_11 hT g0) (ztl_11_11 hT g0) (by decide) ?_
  refine zv_iast dX11_copies_268 (zta_11_11 hT g0) (ztl_11_11 hT g0) (by decide) (fun M16 => ?_)
  refine zv_rload_n dX11_copies_269 1 rfl ?_
  refine zg_RX11_46 dX11_copies_270 g0 ?_
  refine zv_bipush (z := 60) dX11_copies_273 (by decide) ?_
  refine zv_iload_n dX11_copies_275 3 rfl ?_
  refine zv_imul dX11_copies_276 ?_
  refine zv_iload_n dX11_copies_277 0 rfl ?_
  refine zv_iadd dX11_copies_278 ?_
  refine zv_rload_n dX11_copies_279 1 rfl ?_
  refine zg_RX11_46 dX11_copies_280 g0 ?_
  refine zv_bipush (z := 60) dX11_copies_283 (by decide) ?_
  refine zv_iload_n dX11_copies_285 2 rfl ?_
  refine zv_imul dX11_copies_286 ?_
  refine zv_iload_n dX11_copies_287 0 rfl ?_
  refine zv_iadd dX11_copies_288 ?_
  refine zv_iald dX11_copies_289 (zta_11_12 hT g0) (ztl_11_12 hT g0) (by decide) ?_
  refine zv_iast dX11_copies_290 (zta_11_12 hT g0) (ztl_11_12 hT g0) (by decide) (fun M17 => ?_)
  refine zv_rload_n dX11_copies_291 1 rfl ?_
  refine zg_RX11_49 dX11_copies_292 g0 ?_
  refine zv_bipush (z := 60) dX11_copies_295 (by decide) ?_
  refine zv_iload_n dX11_copies_297 3 rfl ?_
  refine zv_imul dX11_copies_298 ?_
  refine zv_iload_n dX11_copies_299 0 rfl ?_
  refine zv_iadd dX11_copies_300 ?_
  refine zv_rload_n dX11_copies_301 1 rfl ?_
  refine zg_RX11_49 dX11_copies_302 g0 ?_
  refine zv_bipush (z := 60) dX11_copies_305 (by decide) ?_
  refine zv_iload_n dX11_copies_307 2 rfl ?_
  refine zv_imul dX11_copies_308 ?_
  refine zv_iload_n dX11_copies_309 0 rfl ?_
  refine zv_iadd dX11_copies_310 ?_
  refine zv_iald dX11_copies_311 (zta_11_13 hT g0) (ztl_11_13 hT g0) (by decide) ?_
  refine zv_iast dX11_copies_312 (zta_11_13 hT g0) (ztl_11_13 hT g0) (by decide) (fun M18 => ?_)
  refine zv_iinc dX11_copies_313 0 rfl (fun x19 => [(3, iv x19), (0, rn w l0), (1, iv l1), (2, iv l2)]) (by decide) (fun _ => rfl) (fun x19 => ?_)
  refine zv_goto (tgt := 219) dX11_copies_316 (by decide) ?_
  exact zv_sub (L' := [(3, iv x19), (0, rn w l0), (1, iv l1), (2, iv l2)]) [0, 1, 2, 3] rfl (zv_exit (fun h => h))
theorem vl_X11_copies_321 {κ : zC} {w : zW} (hw : zWk w)  (l0 : Nat) (l1 : Int) (l2 : Int) (g0 : ztag w.1 l0 = 12)  (E : (zM) → Prop) (hX : ∀  (M1 : zM), E M1 → zB cX11_copies RX11 4 none κ w (0, 0, 0) 355 [(0, rn w l0), (1, iv l1), (2, iv l2)] [] M1)  (y3 : Int) (M0 : zM) :
    zV cX11_copies RX11 4 none κ w (0, 0, 0) 321 [(3, iv y3), (0, rn w l0), (1, iv l1), (2, iv l2)] [] M0 (zw2 (fb_X11_copies_321 w.1 l0 l1 l2) zfu y3 M0) E := by
  have hT := hw.1
  refine zv_loop2 (fun y3 M0 => [(3, iv y3), (0, rn w l0), (1, iv l1), (2, iv l2)]) (fun y3 M0 => M0) (fun y3 M0 => ?_) y3 M0
  unfold fb_X11_copies_321
  refine zv_iload_n dX11_copies_321 0 rfl ?_
  refine zv_bipush (z := 10) dX11_copies_322 (by decide) ?_
  refine zv_icmp_ge (tgt := 355) dX11_copies_324 (by decide) ?_ ?_
  · exact zv_sub (L' := [(0, rn w l0), (1, iv l1), (2, iv l2)]) [1, 2, 3] rfl (zv_exit (fun h => hX _ h))
  refine zv_rload_n dX11_copies_327 1 rfl ?_
  refine zg_RX11_52 dX11_copies_328 g0 ?_
  refine zv_bipush (z := 10) dX11_copies_331 (by decide) ?_
  refine zv_iload_n dX11_copies_333 3 rfl ?_
  refine zv_imul dX11_copies_334 ?_
  refine zv_iload_n dX11_copies_335 0 rfl ?_
  refine zv_iadd dX11_copies_336 ?_
  refine zv_rload_n dX11_copies_337 1 rfl ?_
  refine zg_RX11_52 dX11_copies_338 g0 ?_
  refine zv_bipush (z := 10) dX11_copies_341 (by decide) ?_
  refine zv_iload_n dX11_copies_343 2 rfl ?_
  refine zv_imul dX11_copies_344 ?_
  refine zv_iload_n dX11_copies_345 0 rfl ?_
  refine zv_iadd dX11_copies_346 ?_
  refine zv_iald dX11_copies_347 (zta_11_14 hT g0) (ztl_11_14 hT g0) (by decide) ?_
  refine zv_iast dX11_copies_348 (zta_11_14 hT g0) (ztl_11_14 hT g0) (by decide) (fun M21 => ?_)
  refine zv_iinc dX11_copies_349 0 rfl (fun x22 => [(3, iv x22), (0, rn w l0), (1, iv l1), (2, iv l2)]) (by decide) (fun _ => rfl) (fun x22 => ?_)
  refine zv_goto (tgt := 321) dX11_copies_352 (by decide) ?_
  exact zv_sub (L' := [(3, iv x22), (0, rn w l0), (1, iv l1), (2, iv l2)]) [0, 1, 2, 3] rfl (zv_exit (fun h => h))
set_option maxRecDepth 20000 in
theorem vl_X11_copies_357 {κ : zC} {w : zW} (hw : zWk w)  (l0 : Nat) (l1 : Int) (l2 : Int) (g0 : ztag w.1 l0 = 12)  (E : (zM) → Prop) (hX : ∀  (M1 : zM), E M1 → zB cX11_copies RX11 4 none κ w (0, 0, 0) 457 [] [] M1)  (y3 : Int) (M0 : zM) :
    zV cX11_copies RX11 4 none κ w (0, 0, 0) 357 [(3, iv y3), (0, rn w l0), (1, iv l1), (2, iv l2)] [] M0 (zw2 (fb_X11_copies_357 w.1 l0 l1 l2) zfu y3 M0) E := by
  have hT := hw.1
  refine zv_loop2 (fun y3 M0 => [(3, iv y3), (0, rn w l0), (1, iv l1), (2, iv l2)]) (fun y3 M0 => M0) (fun y3 M0 => ?_) y3 M0
  unfold fb_X11_copies_357
  refine zv_iload_n dX11_copies_357 0 rfl ?_
  refine zv_bipush (z := 40) dX11_copies_358 (by decide) ?_
  refine zv_icmp_ge (tgt := 457) dX11_copies_360 (by decide) ?_ ?_
  · exact zv_sub (L' := []) [] rfl (zv_exit (fun h => hX _ h))
  refine zv_rload_n dX11_copies_363 1 rfl ?_
  refine zg_RX11_68 dX11_copies_364 g0 ?_
  refine zv_bipush (z := 40) dX11_copies_367 (by decide) ?_
  refine zv_iload_n dX11_copies_369 3 rfl ?_
  refine zv_imul dX11_copies_370 ?_
  refine zv_iload_n dX11_copies_371 0 rfl ?_
  refine zv_iadd dX11_copies_372 ?_
  refine zv_rload_n dX11_copies_373 1 rfl ?_
  refine zg_RX11_68 dX11_copies_374 g0 ?_
  refine zv_bipush (z := 40) dX11_copies_377 (by decide) ?_
  refine zv_iload_n dX11_copies_379 2 rfl ?_
  refine zv_imul dX11_copies_380 ?_
  refine zv_iload_n dX11_copies_381 0 rfl ?_
  refine zv_iadd dX11_copies_382 ?_
  refine zv_zald dX11_copies_383 (zta_11_19 hT g0) (ztl_11_19 hT g0) (by decide) ?_
  refine zv_zast dX11_copies_384 (zta_11_19 hT g0) (ztl_11_19 hT g0) (by decide) (fun M24 => ?_)
  refine zv_rload_n dX11_copies_385 1 rfl ?_
  refine zg_RX11_55 dX11_copies_386 g0 ?_
  refine zv_bipush (z := 40) dX11_copies_389 (by decide) ?_
  refine zv_iload_n dX11_copies_391 3 rfl ?_
  refine zv_imul dX11_copies_392 ?_
  refine zv_iload_n dX11_copies_393 0 rfl ?_
  refine zv_iadd dX11_copies_394 ?_
  refine zv_rload_n dX11_copies_395 1 rfl ?_
  refine zg_RX11_55 dX11_copies_396 g0 ?_
  refine zv_bipush (z := 40) dX11_copies_399 (by decide) ?_
  refine zv_iload_n dX11_copies_401 2 rfl ?_
  refine zv_imul dX11_copies_402 ?_
  refine zv_iload_n dX11_copies_403 0 rfl ?_
  refine zv_iadd dX11_copies_404 ?_
  refine zv_iald dX11_copies_405 (zta_11_15 hT g0) (ztl_11_15 hT g0) (by decide) ?_
  refine zv_iast dX11_copies_406 (zta_11_15 hT g0) (ztl_11_15 hT g0) (by decide) (fun M25 => ?_)
  refine zv_rload_n dX11_copies_407 1 rfl ?_
  refine zg_RX11_58 dX11_copies_408 g0 ?_
  refine zv_bipush (z := 40) dX11_copies_411 (by decide) ?_
  refine zv_iload_n dX11_copies_413 3 rfl ?_
  refine zv_imul dX11_copies_414 ?_
  refine zv_iload_n dX11_copies_415 0 rfl ?_
  refine zv_iadd dX11_copies_416 ?_
  refine zv_rload_n dX11_copies_417 1 rfl ?_
  refine zg_RX11_58 dX11_copies_418 g0 ?_
  refine zv_bipush (z := 40) dX11_copies_421 (by decide) ?_
  refine zv_iload_n dX11_copies_423 2 rfl ?_
  refine zv_imul dX11_copies_424 ?_
  refine zv_iload_n dX11_copies_425 0 rfl ?_
  refine zv_iadd dX11_copies_426 ?_
  refine zv_iald dX11_copies_427 (zta_11_16 hT g0) (ztl_11_16 hT g0) (by decide) ?_
  refine zv_iast dX11_copies_428 (zta_11_16 hT g0) (ztl_11_16 hT g0) (by decide) (fun M26 => ?_)
  refine zv_rload_n dX11_copies_429 1 rfl ?_
  refine zg_RX11_61 dX11_copies_430 g0 ?_
  refine zv_bipush (z := 40) dX11_copies_433 (by decide) ?_
  refine zv_iload_n dX11_copies_435 3 rfl ?_
  refine zv_imul dX11_copies_436 ?_
  refine zv_iload_n dX11_copies_437 0 rfl ?_
  refine zv_iadd dX11_copies_438 ?_
  refine zv_rload_n dX11_copies_439 1 rfl ?_
  refine zg_RX11_61 dX11_copies_440 g0 ?_
  refine zv_bipush (z := 40) dX11_copies_443 (by decide) ?_
  refine zv_iload_n dX11_copies_445 2 rfl ?_
  refine zv_imul dX11_copies_446 ?_
  refine zv_iload_n dX11_copies_447 0 rfl ?_
  refine zv_iadd dX11_copies_448 ?_
  refine zv_iald dX11_copies_449 (zta_11_17 hT g0) (ztl_11_17 hT g0) (by decide) ?_
  refine zv_iast dX11_copies_450 (zta_11_17 hT g0) (ztl_11_17 hT g0) (by decide) (fun M27 => ?_)
  refine zv_iinc dX11_copies_451 0 rfl (fun x28 => [(3, iv x28), (0, rn w l0), (1, iv l1), (2, iv l2)]) (by decide) (fun _ => rfl) (fun x28 => ?_)
  refine zv_goto (tgt := 357) dX11_copies_454 (by decide) ?_
  exact zv_sub (L' := [(3, iv x28), (0, rn w l0), (1, iv l1), (2, iv l2)]) [0, 1, 2, 3] rfl (zv_exit (fun h => h))
theorem c_X11_copies (l : Launch) {w : zW} (hw : zWk w)  (p0 : Nat) (p1 : Int) (p2 : Int) (M0 : zM) (hp0 : ztag w.1 p0 = 12) : zCn l yX11_copies cX11_copies 4 none (0) 0 w [rn w p0, iv p1, iv p2] M0 ((f_X11_copies w.1 p0 p1 p2 M0).map fun m => (m, (0 : Int))) := by
  have hT := hw.1
  refine zCn_ofV (own := RX11) (by decide) rfl hw (Nat.le_of_ble_eq_true rfl) [(0, rn w p0), (1, iv p1), (2, iv p2)] rfl ?_
  intro κ hl
  subst hl
  unfold f_X11_copies
  refine zv_rload_n dX11_copies_0 0 rfl ?_
  refine zg_RX11_13 dX11_copies_1 hp0 ?_
  refine zv_iload_n dX11_copies_4 2 rfl ?_
  refine zv_rload_n dX11_copies_5 0 rfl ?_
  refine zg_RX11_13 dX11_copies_6 hp0 ?_
  refine zv_iload_n dX11_copies_9 1 rfl ?_
  refine zv_iald dX11_copies_10 (zta_11_1 hT hp0) (ztl_11_1 hT hp0) (by decide) ?_
  refine zv_iast dX11_copies_11 (zta_11_1 hT hp0) (ztl_11_1 hT hp0) (by decide) (fun M1 => ?_)
  refine zv_rload_n dX11_copies_12 0 rfl ?_
  refine zg_RX11_16 dX11_copies_13 hp0 ?_
  refine zv_iload_n dX11_copies_16 2 rfl ?_
  refine zv_rload_n dX11_copies_17 0 rfl ?_
  refine zg_RX11_16 dX11_copies_18 hp0 ?_
  refine zv_iload_n dX11_copies_21 1 rfl ?_
  refine zv_iald dX11_copies_22 (zta_11_2 hT hp0) (ztl_11_2 hT hp0) (by decide) ?_
  refine zv_iast dX11_copies_23 (zta_11_2 hT hp0) (ztl_11_2 hT hp0) (by decide) (fun M2 => ?_)
  refine zv_rload_n dX11_copies_24 0 rfl ?_
  refine zg_RX11_19 dX11_copies_25 hp0 ?_
  refine zv_iload_n dX11_copies_28 2 rfl ?_
  refine zv_rload_n dX11_copies_29 0 rfl ?_
  refine zg_RX11_19 dX11_copies_30 hp0 ?_
  refine zv_iload_n dX11_copies_33 1 rfl ?_
  refine zv_iald dX11_copies_34 (zta_11_3 hT hp0) (ztl_11_3 hT hp0) (by decide) ?_
  refine zv_iast dX11_copies_35 (zta_11_3 hT hp0) (ztl_11_3 hT hp0) (by decide) (fun M3 => ?_)
  refine zv_rload_n dX11_copies_36 0 rfl ?_
  refine zg_RX11_22 dX11_copies_37 hp0 ?_
  refine zv_iload_n dX11_copies_40 2 rfl ?_
  refine zv_rload_n dX11_copies_41 0 rfl ?_
  refine zg_RX11_22 dX11_copies_42 hp0 ?_
  refine zv_iload_n dX11_copies_45 1 rfl ?_
  refine zv_iald dX11_copies_46 (zta_11_4 hT hp0) (ztl_11_4 hT hp0) (by decide) ?_
  refine zv_iast dX11_copies_47 (zta_11_4 hT hp0) (ztl_11_4 hT hp0) (by decide) (fun M4 => ?_)
  refine zv_iconst (z := 0) dX11_copies_48 ?_
  refine zv_istore_np (L' := [(3, iv 0), (0, rn w p0), (1, iv p1), (2, iv p2)]) (by rfl) dX11_copies_49 (by decide) rfl ?_
  refine zv_join1 159 (fun M10 => [(0, rn w p0), (1, iv p1), (2, iv p2)]) (fun M10 => []) (fun M10 => M10) (zv_sub (L' := [(3, iv 0), (0, rn w p0), (1, iv p1), (2, iv p2)]) [0, 1, 2, 3] rfl (vl_X11_copies_50 hw p0 p1 p2 hp0 _ (fun _ h => h) 0 M4)) (fun M10 => ?_)
  refine zv_iconst (z := 0) dX11_copies_159 ?_
  refine zv_istore_np (L' := [(3, iv 0), (0, rn w p0), (1, iv p1), (2, iv p2)]) (by rfl) dX11_copies_160 (by decide) rfl ?_
  refine zv_join1 217 (fun M14 => [(0, rn w p0), (1, iv p1), (2, iv p2)]) (fun M14 => []) (fun M14 => M14) (zv_sub (L' := [(3, iv 0), (0, rn w p0), (1, iv p1), (2, iv p2)]) [0, 1, 2, 3] rfl (vl_X11_copies_161 hw p0 p1 p2 hp0 _ (fun _ h => h) 0 M10)) (fun M14 => ?_)
  refine zv_iconst (z := 0) dX11_copies_217 ?_
  refine zv_istore_np (L' := [(3, iv 0), (0, rn w p0), (1, iv p1), (2, iv p2)]) (by rfl) dX11_copies_218 (by decide) rfl ?_
  refine zv_join1 319 (fun M20 => [(0, rn w p0), (1, iv p1), (2, iv p2)]) (fun M20 => []) (fun M20 => M20) (zv_sub (L' := [(3, iv 0), (0, rn w p0), (1, iv p1), (2, iv p2)]) [0, 1, 2, 3] rfl (vl_X11_copies_219 hw p0 p1 p2 hp0 _ (fun _ h => h) 0 M14)) (fun M20 => ?_)
  refine zv_iconst (z := 0) dX11_copies_319 ?_
  refine zv_istore_np (L' := [(3, iv 0), (0, rn w p0), (1, iv p1), (2, iv p2)]) (by rfl) dX11_copies_320 (by decide) rfl ?_
  refine zv_join1 355 (fun M23 => [(0, rn w p0), (1, iv p1), (2, iv p2)]) (fun M23 => []) (fun M23 => M23) (zv_sub (L' := [(3, iv 0), (0, rn w p0), (1, iv p1), (2, iv p2)]) [0, 1, 2, 3] rfl (vl_X11_copies_321 hw p0 p1 p2 hp0 _ (fun _ h => h) 0 M20)) (fun M23 => ?_)
  refine zv_iconst (z := 0) dX11_copies_355 ?_
  refine zv_istore_np (L' := [(3, iv 0), (0, rn w p0), (1, iv p1), (2, iv p2)]) (by rfl) dX11_copies_356 (by decide) rfl ?_
  refine zv_join1 457 (fun M29 => []) (fun M29 => []) (fun M29 => M29) (zv_sub (L' := [(3, iv 0), (0, rn w p0), (1, iv p1), (2, iv p2)]) [0, 1, 2, 3] rfl (vl_X11_copies_357 hw p0 p1 p2 hp0 _ (fun _ h => h) 0 M23)) (fun M29 => ?_)
  exact zv_ret (fun h => h) (zv_vret (v := 0) dX11_copies_457)
def fb_X11_mudMany_4 (k : zK)  (l0 : Nat) (M0 : zM) (y1 : Int) (y2 : Int) : Option ((Int × Int) ⊕ (Int)) :=
  zbr y2 256 (256 ≤ y2) (some (.inr y1)) (zgd (0 ≤ y2 ∧ y2 < 1024) (zbr (M0 (zfr k l0 8) y2.toNat) 0 (M0 (zfr k l0 8) y2.toNat < 0) (zlt (y1 + 0) (fun x1 => zlt (y2 + 1) (fun x2 => some (.inl (x1, x2))))) (zlt (y1 + 1) (fun x3 => zlt (y2 + 1) (fun x4 => some (.inl (x3, x4)))))))
def f_X11_mudMany (k : zK)  (p0 : Nat) (M0 : zM) : Option Int :=
  zb1 (zw2 (fb_X11_mudMany_4 k p0 M0) zfu 0 0) (fun x5 => some x5)
theorem vl_X11_mudMany_4 {κ : zC} {w : zW} (hw : zWk w)  (l0 : Nat) (g0 : ztag w.1 l0 = 12) (M0 : zM) (E : (Int) → Prop) (hX : ∀ (u1 : Int), E u1 → zB cX11_mudMany RX11 3 (some .int) κ w (0, 0, 0) 34 [(1, iv u1)] [] M0)  (y1 : Int) (y2 : Int) :
    zV cX11_mudMany RX11 3 (some .int) κ w (0, 0, 0) 4 [(1, iv y1), (2, iv y2), (0, rn w l0)] [] M0 (zw2 (fb_X11_mudMany_4 w.1 l0 M0) zfu y1 y2) E := by
  have hT := hw.1
  refine zv_loop2 (fun y1 y2 => [(1, iv y1), (2, iv y2), (0, rn w l0)]) (fun y1 y2 => M0) (fun y1 y2 => ?_) y1 y2
  unfold fb_X11_mudMany_4
  refine zv_iload_n dX11_mudMany_4 1 rfl ?_
  refine zv_sipush (z := 256) dX11_mudMany_5 (by decide) ?_
  refine zv_icmp_ge (tgt := 34) dX11_mudMany_8 (by decide) ?_ ?_
  · exact zv_sub (L' := [(1, iv y1)]) [0] rfl (zv_exit (fun h => hX _ h))
  refine zv_iload_n dX11_mudMany_11 0 rfl ?_
  refine zv_rload_n dX11_mudMany_12 2 rfl ?_
  refine zg_RX11_34 dX11_mudMany_13 g0 ?_
  refine zv_iload_n dX11_mudMany_16 1 rfl ?_
  refine zv_iald dX11_mudMany_17 (zta_11_8 hT g0) (ztl_11_8 hT g0) (by decide) ?_
  refine zv_if_lt (tgt := 25) dX11_mudMany_18 (by decide) ?_ ?_
  · refine zv_iconst (z := 0) dX11_mudMany_25 ?_
    refine zv_iadd dX11_mudMany_26 ?_
    refine zv_istore_n (i := 1) (by rfl) dX11_mudMany_27 (fun x1 => [(1, iv x1), (2, iv y2), (0, rn w l0)]) (by decide) (fun _ => rfl) (fun x1 => ?_)
    refine zv_iinc dX11_mudMany_28 1 rfl (fun x2 => [(2, iv x2), (1, iv x1), (0, rn w l0)]) (by decide) (fun _ => rfl) (fun x2 => ?_)
    refine zv_goto (tgt := 4) dX11_mudMany_31 (by decide) ?_
    exact zv_sub (L' := [(1, iv x1), (2, iv x2), (0, rn w l0)]) [1, 0, 2] rfl (zv_exit (fun h => h))
  refine zv_iconst (z := 1) dX11_mudMany_21 ?_
  refine zv_goto (tgt := 26) dX11_mudMany_22 (by decide) ?_
  refine zv_iadd dX11_mudMany_26 ?_
  refine zv_istore_n (i := 1) (by rfl) dX11_mudMany_27 (fun x3 => [(1, iv x3), (2, iv y2), (0, rn w l0)]) (by decide) (fun _ => rfl) (fun x3 => ?_)
  refine zv_iinc dX11_mudMany_28 1 rfl (fun x4 => [(2, iv x4), (1, iv x3), (0, rn w l0)]) (by decide) (fun _ => rfl) (fun x4 => ?_)
  refine zv_goto (tgt := 4) dX11_mudMany_31 (by decide) ?_
  exact zv_sub (L' := [(1, iv x3), (2, iv x4), (0, rn w l0)]) [1, 0, 2] rfl (zv_exit (fun h => h))
theorem c_X11_mudMany (l : Launch) {w : zW} (hw : zWk w)  (p0 : Nat) (M0 : zM) (hp0 : ztag w.1 p0 = 12) : zCn l yX11_mudMany cX11_mudMany 3 (some .int) (0) 1 w [rn w p0] M0 ((f_X11_mudMany w.1 p0 M0).map fun v => (M0, v)) := by
  have hT := hw.1
  refine zCn_ofP (own := RX11) (by decide) rfl hw (Nat.le_of_ble_eq_true rfl) [(0, rn w p0)] rfl ?_
  intro κ hl
  subst hl
  unfold f_X11_mudMany
  refine zv_iconst (z := 0) dX11_mudMany_0 ?_
  refine zv_istore_np (L' := [(1, iv 0), (0, rn w p0)]) (by rfl) dX11_mudMany_1 (by decide) rfl ?_
  refine zv_iconst (z := 0) dX11_mudMany_2 ?_
  refine zv_istore_np (L' := [(2, iv 0), (1, iv 0), (0, rn w p0)]) (by rfl) dX11_mudMany_3 (by decide) rfl ?_
  refine zv_join1 34 (fun x5 => [(1, iv x5)]) (fun x5 => []) (fun x5 => M0) (zv_sub (L' := [(1, iv 0), (2, iv 0), (0, rn w p0)]) [1, 0, 2] rfl (vl_X11_mudMany_4 hw p0 hp0 M0 _ (fun _ h => h) 0 0)) (fun x5 => ?_)
  refine zv_iload_n dX11_mudMany_34 0 rfl ?_
  exact zv_ret (fun h => h) (zv_iret dX11_mudMany_35)
def fb_X11_count_4 (k : zK)  (l0 : Nat) (l1 : Int) (M0 : zM) (y2 : Int) (y3 : Int) : Option ((Int × Int) ⊕ (Int)) :=
  zbr y3 256 (256 ≤ y3) (some (.inr y2)) (zgd (0 ≤ y3 ∧ y3 < 1024) (zlt (y2 + (M0 (zfr k l0 7) y3.toNat)) (fun x1 => zlt (y3 + 1) (fun x2 => some (.inl (x1, x2))))))
def f_X11_count (k : zK)  (p0 : Nat) (p1 : Int) (M0 : zM) : Option Int :=
  zb1 (zw2 (fb_X11_count_4 k p0 p1 M0) zfu 0 0) (fun x3 => zgd (zr p1) (if p1 = 0 then (zgd (0 ≤ (0 : Int) ∧ (0 : Int) < 2) (some (M0 (zfr k p0 21) (Int.toNat 0)))) else (if p1 = 1 then (zgd (0 ≤ (0 : Int) ∧ (0 : Int) < 4) (some (M0 (zfr k p0 1) (Int.toNat 0)))) else (if p1 = 2 then (zgd (0 ≤ (0 : Int) ∧ (0 : Int) < 4) (some (M0 (zfr k p0 2) (Int.toNat 0)))) else (if p1 = 3 then (some x3) else (if p1 = 4 then (zgd (0 ≤ (0 : Int) ∧ (0 : Int) < 4) (some (M0 (zfr k p0 3) (Int.toNat 0)))) else (if p1 = 5 then (zb1 (f_X11_mudMany k p0 M0) (fun v17 => some v17)) else (if p1 = 6 then (some (M0 p0 34)) else (if p1 = 7 then (some (M0 p0 20)) else (if p1 = 8 then (zgd (0 ≤ p1 - 8 ∧ p1 - 8 < 3) (some (M0 (zfr k p0 0) (p1 - 8).toNat))) else (if p1 = 9 then (zgd (0 ≤ p1 - 8 ∧ p1 - 8 < 3) (some (M0 (zfr k p0 0) (p1 - 8).toNat))) else (if p1 = 10 then (zgd (0 ≤ p1 - 8 ∧ p1 - 8 < 3) (some (M0 (zfr k p0 0) (p1 - 8).toNat))) else (if p1 = 11 then (zb1 (f_X11_catches k p0 M0) (fun v31 => some v31)) else (if p1 = 12 then (zb1 (f_X11_last k p0 5 (p1 - 12) M0) (fun v35 => some v35)) else (if p1 = 13 then (zb1 (f_X11_last k p0 5 (p1 - 12) M0) (fun v39 => some v39)) else (if p1 = 14 then (zb1 (f_X11_last k p0 5 (p1 - 12) M0) (fun v43 => some v43)) else (if p1 = 15 then (zgd (0 ≤ (0 : Int) ∧ (0 : Int) < 4) (some (M0 (zfr k p0 4) (Int.toNat 0)))) else (some (-1)))))))))))))))))))
theorem vl_X11_count_4 {κ : zC} {w : zW} (hw : zWk w)  (l0 : Nat) (l1 : Int) (g0 : ztag w.1 l0 = 12) (M0 : zM) (E : (Int) → Prop) (hX : ∀ (u2 : Int), E u2 → zB cX11_count RX11 4 (some .int) κ w (0, 0, 2) 26 [(0, rn w l0), (1, iv l1), (2, iv u2)] [] M0)  (y2 : Int) (y3 : Int) :
    zV cX11_count RX11 4 (some .int) κ w (0, 0, 2) 4 [(2, iv y2), (3, iv y3), (0, rn w l0), (1, iv l1)] [] M0 (zw2 (fb_X11_count_4 w.1 l0 l1 M0) zfu y2 y3) E := by
  have hT := hw.1
  refine zv_loop2 (fun y2 y3 => [(2, iv y2), (3, iv y3), (0, rn w l0), (1, iv l1)]) (fun y2 y3 => M0) (fun y2 y3 => ?_) y2 y3
  unfold fb_X11_count_4
  refine zv_iload_n dX11_count_4 1 rfl ?_
  refine zv_sipush (z := 256) dX11_count_5 (by decide) ?_
  refine zv_icmp_ge (tgt := 26) dX11_count_8 (by decide) ?_ ?_
  · exact zv_sub (L' := [(0, rn w l0), (1, iv l1), (2, iv y2)]) [2, 3, 0] rfl (zv_exit (fun h => hX _ h))
  refine zv_iload_n dX11_count_11 0 rfl ?_
  refine zv_rload_n dX11_count_12 2 rfl ?_
  refine zg_RX11_31 dX11_count_13 g0 ?_
  refine zv_iload_n dX11_count_16 1 rfl ?_
  refine zv_iald dX11_count_17 (zta_11_7 hT g0) (ztl_11_7 hT g0) (by decide) ?_
  refine zv_iadd dX11_count_18 ?_
  refine zv_istore_n (i := 2) (by rfl) dX11_count_19 (fun x1 => [(2, iv x1), (3, iv y3), (0, rn w l0), (1, iv l1)]) (by decide) (fun _ => rfl) (fun x1 => ?_)
  refine zv_iinc dX11_count_20 1 rfl (fun x2 => [(3, iv x2), (2, iv x1), (0, rn w l0), (1, iv l1)]) (by decide) (fun _ => rfl) (fun x2 => ?_)
  refine zv_goto (tgt := 4) dX11_count_23 (by decide) ?_
  exact zv_sub (L' := [(2, iv x1), (3, iv x2), (0, rn w l0), (1, iv l1)]) [1, 0, 2, 3] rfl (zv_exit (fun h => h))
set_option maxRecDepth 20000 in
theorem c_X11_count (l : Launch) {w : zW} (hw : zWk w)  (p0 : Nat) (p1 : Int) (M0 : zM) (hp0 : ztag w.1 p0 = 12) : zCn l yX11_count cX11_count 4 (some .int) (2) 1 w [rn w p0, iv p1] M0 ((f_X11_count w.1 p0 p1 M0).map fun v => (M0, v)) := by
  have hT := hw.1
  refine zCn_ofP (own := RX11) (by decide) rfl hw (Nat.le_of_ble_eq_true rfl) [(0, rn w p0), (1, iv p1)] rfl ?_
  intro κ hl
  subst hl
  unfold f_X11_count
  refine zv_iconst (z := 0) dX11_count_0 ?_
  refine zv_istore_np (L' := [(2, iv 0), (0, rn w p0), (1, iv p1)]) (by rfl) dX11_count_1 (by decide) rfl ?_
  refine zv_iconst (z := 0) dX11_count_2 ?_
  refine zv_istore_np (L' := [(3, iv 0), (2, iv 0), (0, rn w p0), (1, iv p1)]) (by rfl) dX11_count_3 (by decide) rfl ?_
  refine zv_join1 26 (fun x3 => [(0, rn w p0), (1, iv p1), (2, iv x3)]) (fun x3 => []) (fun x3 => M0) (zv_sub (L' := [(2, iv 0), (3, iv 0), (0, rn w p0), (1, iv p1)]) [1, 0, 2, 3] rfl (vl_X11_count_4 hw p0 p1 hp0 M0 _ (fun _ h => h) 0 0)) (fun x3 => ?_)
  refine zv_iload_n dX11_count_26 1 rfl ?_
  refine zv_gd (fun h4 => ?_)
  refine zv_ite (fun h5 => ?_) (fun h6 => ?_)
  · refine zv_tin (tgt := 104) dX11_count_27 h5 (by decide) (by decide) (by decide) rfl (by decide) ?_
    refine zv_rload_n dX11_count_104 0 rfl ?_
    refine zg_RX11_71 dX11_count_105 hp0 ?_
    refine zv_iconst (z := 0) dX11_count_108 ?_
    refine zv_iald dX11_count_109 (zta_11_21 hT hp0) (ztl_11_21 hT hp0) (by decide) ?_
    exact zv_ret (fun h => h) (zv_iret dX11_count_110)
  refine zv_ite (fun h7 => ?_) (fun h8 => ?_)
  · refine zv_tin (tgt := 111) dX11_count_27 h7 (by decide) (by decide) (by decide) rfl (by decide) ?_
    refine zv_rload_n dX11_count_111 0 rfl ?_
    refine zg_RX11_13 dX11_count_112 hp0 ?_
    refine zv_iconst (z := 0) dX11_count_115 ?_
    refine zv_iald dX11_count_116 (zta_11_1 hT hp0) (ztl_11_1 hT hp0) (by decide) ?_
    exact zv_ret (fun h => h) (zv_iret dX11_count_117)
  refine zv_ite (fun h9 => ?_) (fun h10 => ?_)
  · refine zv_tin (tgt := 118) dX11_count_27 h9 (by decide) (by decide) (by decide) rfl (by decide) ?_
    refine zv_rload_n dX11_count_118 0 rfl ?_
    refine zg_RX11_16 dX11_count_119 hp0 ?_
    refine zv_iconst (z := 0) dX11_count_122 ?_
    refine zv_iald dX11_count_123 (zta_11_2 hT hp0) (ztl_11_2 hT hp0) (by decide) ?_
    exact zv_ret (fun h => h) (zv_iret dX11_count_124)
  refine zv_ite (fun h11 => ?_) (fun h12 => ?_)
  · refine zv_tin (tgt := 125) dX11_count_27 h11 (by decide) (by decide) (by decide) rfl (by decide) ?_
    refine zv_iload_n dX11_count_125 2 rfl ?_
    exact zv_ret (fun h => h) (zv_iret dX11_count_126)
  refine zv_ite (fun h13 => ?_) (fun h14 => ?_)
  · refine zv_tin (tgt := 127) dX11_count_27 h13 (by decide) (by decide) (by decide) rfl (by decide) ?_
    refine zv_rload_n dX11_count_127 0 rfl ?_
    refine zg_RX11_19 dX11_count_128 hp0 ?_
    refine zv_iconst (z := 0) dX11_count_131 ?_
    refine zv_iald dX11_count_132 (zta_11_3 hT hp0) (ztl_11_3 hT hp0) (by decide) ?_
    exact zv_ret (fun h => h) (zv_iret dX11_count_133)
  refine zv_ite (fun h15 => ?_) (fun h16 => ?_)
  · refine zv_tin (tgt := 134) dX11_count_27 h15 (by decide) (by decide) (by decide) rfl (by decide) ?_
    refine zv_rload_n dX11_count_134 0 rfl ?_
    refine zv_pc (zv_callVi [] (c_X11_mudMany κ.2.1 hw p0 M0 hp0) zmd_X11_mudMany zwI_X11_mudMany zwS_X11_mudMany zwM_RX11_459 zcd_11 hp0 rfl (by decide) rfl (Nat.le_of_ble_eq_true rfl) dX11_count_135 (fun mh18 v17 h18 => ?_))
    obtain rfl := zpuE h18
    exact zv_ret (fun h => h) (zv_iret dX11_count_138)
  refine zv_ite (fun h19 => ?_) (fun h20 => ?_)
  · refine zv_tin (tgt := 139) dX11_count_27 h19 (by decide) (by decide) (by decide) rfl (by decide) ?_
    refine zv_rload_n dX11_count_139 0 rfl ?_
    refine zg_RX11_195 dX11_count_140 hp0 ?_
    exact zv_ret (fun h => h) (zv_iret dX11_count_143)
  refine zv_ite (fun h21 => ?_) (fun h22 => ?_)
  · refine zv_tin (tgt := 144) dX11_count_27 h21 (by decide) (by decide) (by decide) rfl (by decide) ?_
    refine zv_rload_n dX11_count_144 0 rfl ?_
    refine zg_RX11_172 dX11_count_145 hp0 ?_
    exact zv_ret (fun h => h) (zv_iret dX11_count_148)
  refine zv_ite (fun h23 => ?_) (fun h24 => ?_)
  · refine zv_tin (tgt := 149) dX11_count_27 h23 (by decide) (by decide) (by decide) rfl (by decide) ?_
    refine zv_rload_n dX11_count_149 0 rfl ?_
    refine zg_RX11_7 dX11_count_150 hp0 ?_
    refine zv_iload_n dX11_count_153 1 rfl ?_
    refine zv_bipush (z := 8) dX11_count_154 (by decide) ?_
    refine zv_isub dX11_count_156 ?_
    refine zv_iald dX11_count_157 (zta_11_0 hT hp0) (ztl_11_0 hT hp0) (by decide) ?_
    exact zv_ret (fun h => h) (zv_iret dX11_count_158)
  refine zv_ite (fun h25 => ?_) (fun h26 => ?_)
  · refine zv_tin (tgt := 149) dX11_count_27 h25 (by decide) (by decide) (by decide) rfl (by decide) ?_
    refine zv_rload_n dX11_count_149 0 rfl ?_
    refine zg_RX11_7 dX11_count_150 hp0 ?_
    refine zv_iload_n dX11_count_153 1 rfl ?_
    refine zv_bipush (z := 8) dX11_count_154 (by decide) ?_
    refine zv_isub dX11_count_156 ?_
    refine zv_iald dX11_count_157 (zta_11_0 hT hp0) (ztl_11_0 hT hp0) (by decide) ?_
    exact zv_ret (fun h => h) (zv_iret dX11_count_158)
  refine zv_ite (fun h27 => ?_) (fun h28 => ?_)
  · refine zv_tin (tgt := 149) dX11_count_27 h27 (by decide) (by decide) (by decide) rfl (by decide) ?_
    refine zv_rload_n dX11_count_149 0 rfl ?_
    refine zg_RX11_7 dX11_count_150 hp0 ?_
    refine zv_iload_n dX11_count_153 1 rfl ?_
    refine zv_bipush (z := 8) dX11_count_154 (by decide) ?_
    refine zv_isub dX11_count_156 ?_
    refine zv_iald dX11_count_157 (zta_11_0 hT hp0) (ztl_11_0 hT hp0) (by decide) ?_
    exact zv_ret (fun h => h) (zv_iret dX11_count_158)
  refine zv_ite (fun h29 => ?_) (fun h30 => ?_)
  · refine zv_tin (tgt := 159) dX11_count_27 h29 (by decide) (by decide) (by decide) rfl (by decide) ?_
    refine zv_rload_n dX11_count_159 0 rfl ?_
    refine zv_pc (zv_callVi [] (c_X11_catches κ.2.1 hw p0 M0 hp0) zmd_X11_catches zwI_X11_catches zwS_X11_catches zwM_RX11_434 zcd_11 hp0 rfl (by decide) rfl (Nat.le_of_ble_eq_true rfl) dX11_count_160 (fun mh32 v31 h32 => ?_))
    obtain rfl := zpuE h32
    exact zv_ret (fun h => h) (zv_iret dX11_count_163)
  refine zv_ite (fun h33 => ?_) (fun h34 => ?_)
  · refine zv_tin (tgt := 164) dX11_count_27 h33 (by decide) (by decide) (by decide) rfl (by decide) ?_
    refine zv_rload_n dX11_count_164 0 rfl ?_
    refine zv_iconst (z := 5) dX11_count_165 ?_
    refine zv_iload_n dX11_count_166 1 rfl ?_
    refine zv_bipush (z := 12) dX11_count_167 (by decide) ?_
    refine zv_isub dX11_count_169 ?_
    refine zv_pc (zv_callVi [iv 5, iv (p1 - 12)] (c_X11_last κ.2.1 hw p0 5 (p1 - 12) M0 hp0) zmd_X11_last zwI_X11_last zwS_X11_last zwM_RX11_326 zcd_11 hp0 rfl (by decide) rfl (Nat.le_of_ble_eq_true rfl) dX11_count_170 (fun mh36 v35 h36 => ?_))
    obtain rfl := zpuE h36
    exact zv_ret (fun h => h) (zv_iret dX11_count_173)
  refine zv_ite (fun h37 => ?_) (fun h38 => ?_)
  · refine zv_tin (tgt := 164) dX11_count_27 h37 (by decide) (by decide) (by decide) rfl (by decide) ?_
    refine zv_rload_n dX11_count_164 0 rfl ?_
    refine zv_iconst (z := 5) dX11_count_165 ?_
    refine zv_iload_n dX11_count_166 1 rfl ?_
    refine zv_bipush (z := 12) dX11_count_167 (by decide) ?_
    refine zv_isub dX11_count_169 ?_
    refine zv_pc (zv_callVi [iv 5, iv (p1 - 12)] (c_X11_last κ.2.1 hw p0 5 (p1 - 12) M0 hp0) zmd_X11_last zwI_X11_last zwS_X11_last zwM_RX11_326 zcd_11 hp0 rfl (by decide) rfl (Nat.le_of_ble_eq_true rfl) dX11_count_170 (fun mh40 v39 h40 => ?_))
    obtain rfl := zpuE h40
    exact zv_ret (fun h => h) (zv_iret dX11_count_173)
  refine zv_ite (fun h41 => ?_) (fun h42 => ?_)
  · refine zv_tin (tgt := 164) dX11_count_27 h41 (by decide) (by decide) (by decide) rfl (by decide) ?_
    refine zv_rload_n dX11_count_164 0 rfl ?_
    refine zv_iconst (z := 5) dX11_count_165 ?_
    refine zv_iload_n dX11_count_166 1 rfl ?_
    refine zv_bipush (z := 12) dX11_count_167 (by decide) ?_
    refine zv_isub dX11_count_169 ?_
    refine zv_pc (zv_callVi [iv 5, iv (p1 - 12)] (c_X11_last κ.2.1 hw p0 5 (p1 - 12) M0 hp0) zmd_X11_last zwI_X11_last zwS_X11_last zwM_RX11_326 zcd_11 hp0 rfl (by decide) rfl (Nat.le_of_ble_eq_true rfl) dX11_count_170 (fun mh44 v43 h44 => ?_))
    obtain rfl := zpuE h44
    exact zv_ret (fun h => h) (zv_iret dX11_count_173)
  refine zv_ite (fun h45 => ?_) (fun h46 => ?_)
  · refine zv_tin (tgt := 174) dX11_count_27 h45 (by decide) (by decide) (by decide) rfl (by decide) ?_
    refine zv_rload_n dX11_count_174 0 rfl ?_
    refine zg_RX11_22 dX11_count_175 hp0 ?_
    refine zv_iconst (z := 0) dX11_count_178 ?_
    refine zv_iald dX11_count_179 (zta_11_4 hT hp0) (ztl_11_4 hT hp0) (by decide) ?_
    exact zv_ret (fun h => h) (zv_iret dX11_count_180)
  refine zv_tout (tgt := 181) dX11_count_27 h4 (by omega) (by decide) ?_
  refine zv_iconst (z := (-1)) dX11_count_181 ?_
  exact zv_ret (fun h => h) (zv_iret dX11_count_182)
def f_X11_distance (k : zK)  (p0 : Int) (p1 : Int) (M0 : zM) : Option Int :=
  zbr p0 p1 (p1 ≤ p0) (some (p0 - p1)) (some (p1 - p0))
theorem c_X11_distance (l : Launch) {w : zW} (hw : zWk w)  (p0 : Int) (p1 : Int) (M0 : zM)  : zCn l yX11_distance cX11_distance 2 (some .int) (0) 1 w [iv p0, iv p1] M0 ((f_X11_distance w.1 p0 p1 M0).map fun v => (M0, v)) := by
  have hT := hw.1
  refine zCn_ofP (own := RX11) (by decide) rfl hw (Nat.le_of_ble_eq_true rfl) [(0, iv p0), (1, iv p1)] rfl ?_
  intro κ hl
  subst hl
  unfold f_X11_distance
  refine zv_iload_n dX11_distance_0 0 rfl ?_
  refine zv_iload_n dX11_distance_1 1 rfl ?_
  refine zv_icmp_ge (tgt := 11) dX11_distance_2 (by decide) ?_ ?_
  · refine zv_iload_n dX11_distance_11 0 rfl ?_
    refine zv_iload_n dX11_distance_12 1 rfl ?_
    refine zv_isub dX11_distance_13 ?_
    exact zv_ret (fun h => h) (zv_iret dX11_distance_14)
  refine zv_iload_n dX11_distance_5 1 rfl ?_
  refine zv_iload_n dX11_distance_6 0 rfl ?_
  refine zv_isub dX11_distance_7 ?_
  refine zv_goto (tgt := 14) dX11_distance_8 (by decide) ?_
  exact zv_ret (fun h => h) (zv_iret dX11_distance_14)
def fb_X11_doesFit_7 (k : zK)  (l0 : Nat) (l1 : Int) (y2 : Int) (M0 : zM) : Option ((Int × zM) ⊕ ((zM) ⊕ (zM × Int))) :=
  zgd (0 ≤ l1 ∧ l1 < 160) (zbr y2 (M0 (zfr k l0 17) l1.toNat) (M0 (zfr k l0 17) l1.toNat < y2) (some (.inr (.inr (M0, 0)))) (zb1 (f_X11_findSea k l0 y2 M0) (fun M2 => zgd (0 ≤ l1 ∧ l1 < 160) (zbr (M2 (zfr k l0 19) l1.toNat) 0 (M2 (zfr k l0 19) l1.toNat = 0) (zgd (0 ≤ l1 ∧ l1 < 160) (zbr (M2 l0 49) (M2 (zfr k l0 15) l1.toNat) (M2 l0 49 < M2 (zfr k l0 15) l1.toNat) (zlt (y2 + 1) (fun x3 => some (.inl (x3, M2)))) (some (.inr (.inr (M2, 1)))))) (zgd (0 ≤ l1 ∧ l1 < 160) (zbr (M2 l0 48) (M2 (zfr k l0 15) l1.toNat) (M2 (zfr k l0 15) l1.toNat ≤ M2 l0 48) (zlt (y2 + 1) (fun x4 => some (.inl (x4, M2)))) (some (.inr (.inl M2)))))))))
def f_X11_doesFit (k : zK)  (p0 : Nat) (p1 : Int) (M0 : zM) : Option (zM × Int) :=
  zgd (0 ≤ p1 ∧ p1 < 160) (zlt (M0 (zfr k p0 16) p1.toNat) (fun x1 => zsp1 (zw2 (fb_X11_doesFit_7 k p0 p1) zfu x1 M0) (fun r => some (r)) (fun M5 => some (M5, 1))))
theorem vl_X11_doesFit_7 {κ : zC} {w : zW} (hw : zWk w)  (l0 : Nat) (l1 : Int) (g0 : ztag w.1 l0 = 12)  (E : ((zM) ⊕ (zM × Int)) → Prop) (hX : ∀  (M1 : zM), E (.inl M1) → zB cX11_doesFit RX11 3 (some .boolean) κ w (0, 0, 1) 44 [] [] M1) (hR : ∀ r, E (.inr r) → zRt κ w (0, 0, 1) 1 r) (y2 : Int) (M0 : zM) :
    zV cX11_doesFit RX11 3 (some .boolean) κ w (0, 0, 1) 7 [(2, iv y2), (0, rn w l0), (1, iv l1)] [] M0 (zw2 (fb_X11_doesFit_7 w.1 l0 l1) zfu y2 M0) E := by
  have hT := hw.1
  refine zv_loop2 (fun y2 M0 => [(2, iv y2), (0, rn w l0), (1, iv l1)]) (fun y2 M0 => M0) (fun y2 M0 => ?_) y2 M0
  unfold fb_X11_doesFit_7
  refine zv_iload_n dX11_doesFit_7 0 rfl ?_
  refine zv_rload_n dX11_doesFit_8 1 rfl ?_
  refine zg_RX11_61 dX11_doesFit_9 g0 ?_
  refine zv_iload_n dX11_doesFit_12 2 rfl ?_
  refine zv_iald dX11_doesFit_13 (zta_11_17 hT g0) (ztl_11_17 hT g0) (by decide) ?_
  refine zv_icmp_gt (tgt := 68) dX11_doesFit_14 (by decide) ?_ ?_
  · refine zv_iconst (z := 0) dX11_doesFit_68 ?_
    exact zv_ret (fun h => hR _ h) (zv_zrB (by decide) dX11_doesFit_69)
  refine zv_rload_n dX11_doesFit_17 1 rfl ?_
  refine zv_iload_n dX11_doesFit_18 0 rfl ?_
  refine zv_vc (zv_callVv [iv y2] (c_X11_findSea κ.2.1 hw l0 y2 M0 g0) zmd_X11_findSea zwI_X11_findSea zwS_X11_findSea zwM_RX11_338 zcd_11 g0 rfl (by decide) rfl (Nat.le_of_ble_eq_true rfl) dX11_doesFit_19 (fun M2 _ _ => ?_))
  refine zv_rload_n dX11_doesFit_22 1 rfl ?_
  refine zg_RX11_68 dX11_doesFit_23 g0 ?_
  refine zv_iload_n dX11_doesFit_26 2 rfl ?_
  refine zv_zald dX11_doesFit_27 (zta_11_19 hT g0) (ztl_11_19 hT g0) (by decide) ?_
  refine zv_if_eq (tgt := 47) dX11_doesFit_28 (by decide) ?_ ?_
  · refine zv_rload_n dX11_doesFit_47 1 rfl ?_
    refine zg_RX11_332 dX11_doesFit_48 g0 ?_
    refine zv_rload_n dX11_doesFit_51 1 rfl ?_
    refine zg_RX11_55 dX11_doesFit_52 g0 ?_
    refine zv_iload_n dX11_doesFit_55 2 rfl ?_
    refine zv_iald dX11_doesFit_56 (zta_11_15 hT g0) (ztl_11_15 hT g0) (by decide) ?_
    refine zv_icmp_lt (tgt := 62) dX11_doesFit_57 (by decide) ?_ ?_
    · refine zv_iinc dX11_doesFit_62 0 rfl (fun x3 => [(2, iv x3), (0, rn w l0), (1, iv l1)]) (by decide) (fun _ => rfl) (fun x3 => ?_)
      refine zv_goto (tgt := 7) dX11_doesFit_65 (by decide) ?_
      exact zv_sub (L' := [(2, iv x3), (0, rn w l0), (1, iv l1)]) [0, 1, 2] rfl (zv_exit (fun h => h))
    refine zv_iconst (z := 1) dX11_doesFit_60 ?_
    exact zv_ret (fun h => hR _ h) (zv_zrB (by decide) dX11_doesFit_61)
  refine zv_rload_n dX11_doesFit_31 1 rfl ?_
  refine zg_RX11_329 dX11_doesFit_32 g0 ?_
  refine zv_rload_n dX11_doesFit_35 1 rfl ?_
  refine zg_RX11_55 dX11_doesFit_36 g0 ?_
  refine zv_iload_n dX11_doesFit_39 2 rfl ?_
  refine zv_iald dX11_doesFit_40 (zta_11_15 hT g0) (ztl_11_15 hT g0) (by decide) ?_
  refine zv_icmp_ge (tgt := 62) dX11_doesFit_41 (by decide) ?_ ?_
  · refine zv_iinc dX11_doesFit_62 0 rfl (fun x4 => [(2, iv x4), (0, rn w l0), (1, iv l1)]) (by decide) (fun _ => rfl) (fun x4 => ?_)
    refine zv_goto (tgt := 7) dX11_doesFit_65 (by decide) ?_
    exact zv_sub (L' := [(2, iv x4), (0, rn w l0), (1, iv l1)]) [0, 1, 2] rfl (zv_exit (fun h => h))
  exact zv_sub (L' := []) [] rfl (zv_exit (fun h => hX _ h))
theorem c_X11_doesFit (l : Launch) {w : zW} (hw : zWk w)  (p0 : Nat) (p1 : Int) (M0 : zM) (hp0 : ztag w.1 p0 = 12) : zCn l yX11_doesFit cX11_doesFit 3 (some .boolean) (1) 1 w [rn w p0, iv p1] M0 (f_X11_doesFit w.1 p0 p1 M0) := by
  have hT := hw.1
  refine zCn_of (own := RX11) (by decide) rfl hw (Nat.le_of_ble_eq_true rfl) [(0, rn w p0), (1, iv p1)] rfl ?_
  intro κ hl
  subst hl
  unfold f_X11_doesFit
  refine zv_rload_n dX11_doesFit_0 0 rfl ?_
  refine zg_RX11_58 dX11_doesFit_1 hp0 ?_
  refine zv_iload_n dX11_doesFit_4 1 rfl ?_
  refine zv_iald dX11_doesFit_5 (zta_11_16 hT hp0) (ztl_11_16 hT hp0) (by decide) ?_
  refine zv_istore_n (i := 2) (by rfl) dX11_doesFit_6 (fun x1 => [(2, iv x1), (0, rn w p0), (1, iv p1)]) (by decide) (fun _ => rfl) (fun x1 => ?_)
  refine zv_joinS1 (fun r => r) 44 (fun M5 => []) (fun M5 => []) (fun M5 => M5) (zv_sub (L' := [(2, iv x1), (0, rn w p0), (1, iv p1)]) [0, 1, 2] rfl (vl_X11_doesFit_7 hw p0 p1 hp0 _ (fun _ h => ((fun h => h)) h) (fun _ h => ((fun h => h)) h) x1 M0)) (fun M5 => ?_)
  refine zv_goto (tgt := 60) dX11_doesFit_44 (by decide) ?_
  refine zv_iconst (z := 1) dX11_doesFit_60 ?_
  exact zv_ret (fun h => h) (zv_zrB (by decide) dX11_doesFit_61)
def fb_X11_learn_12 (k : zK)  (l0 : Nat) (l1 : Int) (l2 : Int) (y3 : Int) (M0 : zM) : Option ((Int × zM) ⊕ (zM)) :=
  zgd (0 ≤ (0 : Int) ∧ (0 : Int) < 4) (zbr y3 (M0 (zfr k l0 1) (Int.toNat 0)) (M0 (zfr k l0 1) (Int.toNat 0) ≤ y3) (some (.inr M0)) (zbr y3 l2 (y3 = l2) (zlt (y3 + 1) (fun x3 => some (.inl (x3, M0)))) (zsp1 (zbr l1 0 (l1 < 0) (some (.inl y3)) (zgd (0 ≤ y3 ∧ y3 < 320) (zbr (M0 (zfr k l0 9) y3.toNat) l1 (M0 (zfr k l0 9) y3.toNat = l1) (some (.inl y3)) (zlt (y3 + 1) (fun x4 => some (.inr (.inl (x4, M0)))))))) (fun r => some r) (fun x5 => zlt (zst M0 l0 62 ((M0 l0 62) + 1)) (fun M6 => zgd (0 ≤ x5 ∧ x5 < 320) (zbr (M6 (zfr k l0 18) x5.toNat) 0 (M6 (zfr k l0 18) x5.toNat = 0) (zlt (zst M6 l0 61 ((M6 l0 61) + 0)) (fun M7 => zlt (x5 + 1) (fun x8 => some (.inl (x8, M7))))) (zlt (zst M6 l0 61 ((M6 l0 61) + 1)) (fun M9 => zlt (x5 + 1) (fun x10 => some (.inl (x10, M9)))))))))))
def f_X11_learn (k : zK)  (p0 : Nat) (p1 : Int) (p2 : Int) (M0 : zM) : Option zM :=
  zlt (zst M0 p0 61 1) (fun M1 => zlt (zst M1 p0 62 2) (fun M2 => zb1 (zw2 (fb_X11_learn_12 k p0 p1 p2) zfu 0 M2) (fun M11 => some M11)))
theorem vl_X11_learn_12 {κ : zC} {w : zW} (hw : zWk w)  (l0 : Nat) (l1 : Int) (l2 : Int) (g0 : ztag w.1 l0 = 12)  (E : (zM) → Prop) (hX : ∀  (M1 : zM), E M1 → zB cX11_learn RX11 4 none κ w (0, 0, 0) 83 [] [] M1)  (y3 : Int) (M0 : zM) :
    zV cX11_learn RX11 4 none κ w (0, 0, 0) 12 [(3, iv y3), (0, rn w l0), (1, iv l1), (2, iv l2)] [] M0 (zw2 (fb_X11_learn_12 w.1 l0 l1 l2) zfu y3 M0) E := by
  have hT := hw.1
  refine zv_loop2 (fun y3 M0 => [(3, iv y3), (0, rn w l0), (1, iv l1), (2, iv l2)]) (fun y3 M0 => M0) (fun y3 M0 => ?_) y3 M0
  unfold fb_X11_learn_12
  refine zv_iload_n dX11_learn_12 0 rfl ?_
  refine zv_rload_n dX11_learn_13 1 rfl ?_
  refine zg_RX11_13 dX11_learn_14 g0 ?_
  refine zv_iconst (z := 0) dX11_learn_17 ?_
  refine zv_iald dX11_learn_18 (zta_11_1 hT g0) (ztl_11_1 hT g0) (by decide) ?_
  refine zv_icmp_ge (tgt := 83) dX11_learn_19 (by decide) ?_ ?_
  · exact zv_sub (L' := []) [] rfl (zv_exit (fun h => hX _ h))
  refine zv_iload_n dX11_learn_22 0 rfl ?_
  refine zv_iload_n dX11_learn_23 3 rfl ?_
  refine zv_icmp_eq (tgt := 77) dX11_learn_24 (by decide) ?_ ?_
  · refine zv_iinc dX11_learn_77 0 rfl (fun x3 => [(3, iv x3), (0, rn w l0), (1, iv l1), (2, iv l2)]) (by decide) (fun _ => rfl) (fun x3 => ?_)
    refine zv_goto (tgt := 12) dX11_learn_80 (by decide) ?_
    exact zv_sub (L' := [(3, iv x3), (0, rn w l0), (1, iv l1), (2, iv l2)]) [0, 1, 2, 3] rfl (zv_exit (fun h => h))
  refine zv_iload_n dX11_learn_27 2 rfl ?_
  refine zv_joinS1 (fun r => r) 44 (fun x5 => [(3, iv x5), (0, rn w l0), (1, iv l1), (2, iv l2)]) (fun x5 => []) (fun x5 => M0) ?_ (fun x5 => ?_)
  · refine zv_if_lt (tgt := 44) dX11_learn_28 (by decide) ?_ ?_
    · exact zv_sub (L' := [(3, iv y3), (0, rn w l0), (1, iv l1), (2, iv l2)]) [0, 1, 2, 3] rfl (zv_exit (fun h => h))
    refine zv_rload_n dX11_learn_31 1 rfl ?_
    refine zg_RX11_37 dX11_learn_32 g0 ?_
    refine zv_iload_n dX11_learn_35 0 rfl ?_
    refine zv_iald dX11_learn_36 (zta_11_9 hT g0) (ztl_11_9 hT g0) (by decide) ?_
    refine zv_iload_n dX11_learn_37 2 rfl ?_
    refine zv_icmp_eq (tgt := 44) dX11_learn_38 (by decide) ?_ ?_
    · exact zv_sub (L' := [(3, iv y3), (0, rn w l0), (1, iv l1), (2, iv l2)]) [0, 1, 2, 3] rfl (zv_exit (fun h => h))
    refine zv_goto (tgt := 77) dX11_learn_41 (by decide) ?_
    refine zv_iinc dX11_learn_77 0 rfl (fun x4 => [(3, iv x4), (0, rn w l0), (1, iv l1), (2, iv l2)]) (by decide) (fun _ => rfl) (fun x4 => ?_)
    refine zv_goto (tgt := 12) dX11_learn_80 (by decide) ?_
    exact zv_sub (L' := [(3, iv x4), (0, rn w l0), (1, iv l1), (2, iv l2)]) [0, 1, 2, 3] rfl (zv_exit (fun h => h))
  refine zv_rload_n dX11_learn_44 1 rfl ?_
  refine zv_dup dX11_learn_45 rfl ?_
  refine zg_RX11_422 dX11_learn_46 g0 ?_
  refine zv_iconst (z := 1) dX11_learn_49 ?_
  refine zv_iadd dX11_learn_50 ?_
  refine zp_RX11_422 dX11_learn_51 g0 (fun M6 => ?_)
  refine zv_rload_n dX11_learn_54 1 rfl ?_
  refine zv_dup dX11_learn_55 rfl ?_
  refine zg_RX11_419 dX11_learn_56 g0 ?_
  refine zv_rload_n dX11_learn_59 1 rfl ?_
  refine zg_RX11_64 dX11_learn_60 g0 ?_
  refine zv_iload_n dX11_learn_63 0 rfl ?_
  refine zv_zald dX11_learn_64 (zta_11_18 hT g0) (ztl_11_18 hT g0) (by decide) ?_
  refine zv_if_eq (tgt := 72) dX11_learn_65 (by decide) ?_ ?_
  · refine zv_iconst (z := 0) dX11_learn_72 ?_
    refine zv_iadd dX11_learn_73 ?_
    refine zp_RX11_419 dX11_learn_74 g0 (fun M7 => ?_)
    refine zv_iinc dX11_learn_77 0 rfl (fun x8 => [(3, iv x8), (0, rn w l0), (1, iv l1), (2, iv l2)]) (by decide) (fun _ => rfl) (fun x8 => ?_)
    refine zv_goto (tgt := 12) dX11_learn_80 (by decide) ?_
    exact zv_sub (L' := [(3, iv x8), (0, rn w l0), (1, iv l1), (2, iv l2)]) [0, 1, 2, 3] rfl (zv_exit (fun h => h))
  refine zv_iconst (z := 1) dX11_learn_68 ?_
  refine zv_goto (tgt := 73) dX11_learn_69 (by decide) ?_
  refine zv_iadd dX11_learn_73 ?_
  refine zp_RX11_419 dX11_learn_74 g0 (fun M9 => ?_)
  refine zv_iinc dX11_learn_77 0 rfl (fun x10 => [(3, iv x10), (0, rn w l0), (1, iv l1), (2, iv l2)]) (by decide) (fun _ => rfl) (fun x10 => ?_)
  refine zv_goto (tgt := 12) dX11_learn_80 (by decide) ?_
  exact zv_sub (L' := [(3, iv x10), (0, rn w l0), (1, iv l1), (2, iv l2)]) [0, 1, 2, 3] rfl (zv_exit (fun h => h))
theorem c_X11_learn (l : Launch) {w : zW} (hw : zWk w)  (p0 : Nat) (p1 : Int) (p2 : Int) (M0 : zM) (hp0 : ztag w.1 p0 = 12) : zCn l yX11_learn cX11_learn 4 none (0) 0 w [rn w p0, iv p1, iv p2] M0 ((f_X11_learn w.1 p0 p1 p2 M0).map fun m => (m, (0 : Int))) := by
  have hT := hw.1
  refine zCn_ofV (own := RX11) (by decide) rfl hw (Nat.le_of_ble_eq_true rfl) [(0, rn w p0), (1, iv p1), (2, iv p2)] rfl ?_
  intro κ hl
  subst hl
  unfold f_X11_learn
  refine zv_rload_n dX11_learn_0 0 rfl ?_
  refine zv_iconst (z := 1) dX11_learn_1 ?_
  refine zp_RX11_419 dX11_learn_2 hp0 (fun M1 => ?_)
  refine zv_rload_n dX11_learn_5 0 rfl ?_
  refine zv_iconst (z := 2) dX11_learn_6 ?_
  refine zp_RX11_422 dX11_learn_7 hp0 (fun M2 => ?_)
  refine zv_iconst (z := 0) dX11_learn_10 ?_
  refine zv_istore_np (L' := [(3, iv 0), (0, rn w p0), (1, iv p1), (2, iv p2)]) (by rfl) dX11_learn_11 (by decide) rfl ?_
  refine zv_join1 83 (fun M11 => []) (fun M11 => []) (fun M11 => M11) (zv_sub (L' := [(3, iv 0), (0, rn w p0), (1, iv p1), (2, iv p2)]) [0, 1, 2, 3] rfl (vl_X11_learn_12 hw p0 p1 p2 hp0 _ (fun _ h => h) 0 M2)) (fun M11 => ?_)
  exact zv_ret (fun h => h) (zv_vret (v := 0) dX11_learn_83)
def fb_X11_power_5 (k : zK)  (l0 : Int) (l2 : Int) (M0 : zM) (y3 : Int) (y5 : Int) : Option ((Int × Int) ⊕ (Int)) :=
  zbr y5 l2 (l2 ≤ y5) (some (.inr y3)) (zlt (y3 * l0) (fun x1 => zlt (y5 + 1) (fun x2 => some (.inl (x1, x2)))))
def f_X11_power (k : zK)  (p0 : Int) (p2 : Int) (M0 : zM) : Option Int :=
  zb1 (zw2 (fb_X11_power_5 k p0 p2 M0) zfu 1 0) (fun x3 => some x3)
theorem vl_X11_power_5 {κ : zC} {w : zW} (hw : zWk w)  (l0 : Int) (l2 : Int)  (M0 : zM) (E : (Int) → Prop) (hX : ∀ (u3 : Int), E u3 → zB cX11_power RX11 6 (some .long) κ w (0, 0, 0) 21 [(3, jv u3)] [] M0)  (y3 : Int) (y5 : Int) :
    zV cX11_power RX11 6 (some .long) κ w (0, 0, 0) 5 [(3, jv y3), (5, iv y5), (0, jv l0), (2, iv l2)] [] M0 (zw2 (fb_X11_power_5 w.1 l0 l2 M0) zfu y3 y5) E := by
  have hT := hw.1
  refine zv_loop2 (fun y3 y5 => [(3, jv y3), (5, iv y5), (0, jv l0), (2, iv l2)]) (fun y3 y5 => M0) (fun y3 y5 => ?_) y3 y5
  unfold fb_X11_power_5
  refine zv_iload dX11_power_5 1 rfl ?_
  refine zv_iload_n dX11_power_7 3 rfl ?_
  refine zv_icmp_ge (tgt := 21) dX11_power_8 (by decide) ?_ ?_
  · exact zv_sub (L' := [(3, jv y3)]) [0] rfl (zv_exit (fun h => hX _ h))
  refine zv_lload_n dX11_power_11 0 rfl ?_
  refine zv_lload_n dX11_power_12 2 rfl ?_
  refine zv_lmul dX11_power_13 ?_
  refine zv_lstore_n (i := 3) (by rfl) dX11_power_14 (fun x1 => [(3, jv x1), (5, iv y5), (0, jv l0), (2, iv l2)]) (by decide) (fun _ => rfl) (fun x1 => ?_)
  refine zv_iinc dX11_power_15 1 rfl (fun x2 => [(5, iv x2), (3, jv x1), (0, jv l0), (2, iv l2)]) (by decide) (fun _ => rfl) (fun x2 => ?_)
  refine zv_goto (tgt := 5) dX11_power_18 (by decide) ?_
  exact zv_sub (L' := [(3, jv x1), (5, iv x2), (0, jv l0), (2, iv l2)]) [1, 0, 2, 3] rfl (zv_exit (fun h => h))
theorem c_X11_power (l : Launch) {w : zW} (hw : zWk w)  (p0 : Int) (p2 : Int) (M0 : zM)  : zCn l yX11_power cX11_power 6 (some .long) (0) 2 w [jv p0, iv p2] M0 ((f_X11_power w.1 p0 p2 M0).map fun v => (M0, v)) := by
  have hT := hw.1
  refine zCn_ofP (own := RX11) (by decide) rfl hw (Nat.le_of_ble_eq_true rfl) [(0, jv p0), (2, iv p2)] rfl ?_
  intro κ hl
  subst hl
  unfold f_X11_power
  refine zv_lconst (z := 1) dX11_power_0 (by decide) ?_
  refine zv_lstore_np (L' := [(3, jv 1), (0, jv p0), (2, iv p2)]) (by rfl) dX11_power_1 (by decide) rfl ?_
  refine zv_iconst (z := 0) dX11_power_2 ?_
  refine zv_istore_p (L' := [(5, iv 0), (3, jv 1), (0, jv p0), (2, iv p2)]) dX11_power_3 (by decide) rfl ?_
  refine zv_join1 21 (fun x3 => [(3, jv x3)]) (fun x3 => []) (fun x3 => M0) (zv_sub (L' := [(3, jv 1), (5, iv 0), (0, jv p0), (2, iv p2)]) [1, 0, 2, 3] rfl (vl_X11_power_5 hw p0 p2 M0 _ (fun _ h => h) 1 0)) (fun x3 => ?_)
  refine zv_lload_n dX11_power_21 0 rfl ?_
  exact zv_ret (fun h => h) (zv_lret dX11_power_22)
def f_X11_findLeft (k : zK)  (p0 : Nat) (p1 : Int) (M0 : zM) : Option zM :=
  zlt (zst M0 p0 63 0) (fun M1 => zlt (zst M1 p0 64 1) (fun M2 => zgd (0 ≤ p1 ∧ p1 < 256) (zbr (M2 (zfr k p0 55) p1.toNat) 0 (¬ M2 (zfr k p0 55) p1.toNat = 0) (zb1 (f_X11_kindOf k p0 p1 M2) (fun v3 => zb1 (f_X11_learn k p0 v3 (-1) M2) (fun M5 => zgd (zr (M5 p0 61)) (zb1 (f_X11_catches k p0 M5) (fun v6 => zgd (zr (10 - v6)) (zgd (0 ≤ p1 ∧ p1 < 1024) (zb1 (f_X11_power k (10 - v6) (M5 (zfr k p0 7) p1.toNat) M5) (fun v8 => zlt (zst M5 p0 63 ((M5 p0 61) * v8)) (fun M10 => zgd (zr ((M10 p0 62) - (M10 p0 61))) (zgd (0 ≤ p1 ∧ p1 < 1024) (zb1 (f_X11_power k 10 (M10 (zfr k p0 7) p1.toNat) M10) (fun v11 => zlt (zst M10 p0 64 ((M10 p0 63) + (((M10 p0 62) - (M10 p0 61)) * v11))) (fun M13 => some M13))))))))))))) (some M2))))
set_option maxRecDepth 20000 in
theorem c_X11_findLeft (l : Launch) {w : zW} (hw : zWk w)  (p0 : Nat) (p1 : Int) (M0 : zM) (hp0 : ztag w.1 p0 = 12) : zCn l yX11_findLeft cX11_findLeft 2 none (2) 0 w [rn w p0, iv p1] M0 ((f_X11_findLeft w.1 p0 p1 M0).map fun m => (m, (0 : Int))) := by
  have hT := hw.1
  refine zCn_ofV (own := RX11) (by decide) rfl hw (Nat.le_of_ble_eq_true rfl) [(0, rn w p0), (1, iv p1)] rfl ?_
  intro κ hl
  subst hl
  unfold f_X11_findLeft
  refine zv_rload_n dX11_findLeft_0 0 rfl ?_
  refine zv_lconst (z := 0) dX11_findLeft_1 (by decide) ?_
  refine zp_RX11_428 dX11_findLeft_2 hp0 (fun M1 => ?_)
  refine zv_rload_n dX11_findLeft_5 0 rfl ?_
  refine zv_lconst (z := 1) dX11_findLeft_6 (by decide) ?_
  refine zp_RX11_431 dX11_findLeft_7 hp0 (fun M2 => ?_)
  refine zv_rload_n dX11_findLeft_10 0 rfl ?_
  refine zg_RX11_139 dX11_findLeft_11 hp0 ?_
  refine zv_iload_n dX11_findLeft_14 1 rfl ?_
  refine zv_zald dX11_findLeft_15 (zta_11_55 hT hp0) (ztl_11_55 hT hp0) (by decide) ?_
  refine zv_if_ne (tgt := 20) dX11_findLeft_16 (by decide) ?_ ?_
  · refine zv_rload_n dX11_findLeft_20 0 rfl ?_
    refine zv_rload_n dX11_findLeft_21 0 rfl ?_
    refine zv_iload_n dX11_findLeft_22 1 rfl ?_
    refine zv_pc (zv_callVi [iv p1] (c_X11_kindOf κ.2.1 hw p0 p1 M2 hp0) zmd_X11_kindOf zwI_X11_kindOf zwS_X11_kindOf zwM_RX11_390 zcd_11 hp0 rfl (by decide) rfl (Nat.le_of_ble_eq_true rfl) dX11_findLeft_23 (fun mh4 v3 h4 => ?_))
    obtain rfl := zpuE h4
    refine zv_iconst (z := (-1)) dX11_findLeft_26 ?_
    refine zv_vc (zv_callVv [iv v3, iv (-1)] (c_X11_learn κ.2.1 hw p0 v3 (-1) M2 hp0) zmd_X11_learn zwI_X11_learn zwS_X11_learn zwM_RX11_425 zcd_11 hp0 rfl (by decide) rfl (Nat.le_of_ble_eq_true rfl) dX11_findLeft_27 (fun M5 _ _ => ?_))
    refine zv_rload_n dX11_findLeft_30 0 rfl ?_
    refine zv_rload_n dX11_findLeft_31 0 rfl ?_
    refine zg_RX11_419 dX11_findLeft_32 hp0 ?_
    refine zv_i2l dX11_findLeft_35 ?_
    refine zv_bipush (z := 10) dX11_findLeft_36 (by decide) ?_
    refine zv_rload_n dX11_findLeft_38 0 rfl ?_
    refine zv_pc (zv_callVi [] (c_X11_catches κ.2.1 hw p0 M5 hp0) zmd_X11_catches zwI_X11_catches zwS_X11_catches zwM_RX11_434 zcd_11 hp0 rfl (by decide) rfl (Nat.le_of_ble_eq_true rfl) dX11_findLeft_39 (fun mh7 v6 h7 => ?_))
    obtain rfl := zpuE h7
    refine zv_isub dX11_findLeft_42 ?_
    refine zv_i2l dX11_findLeft_43 ?_
    refine zv_rload_n dX11_findLeft_44 0 rfl ?_
    refine zg_RX11_31 dX11_findLeft_45 hp0 ?_
    refine zv_iload_n dX11_findLeft_48 1 rfl ?_
    refine zv_iald dX11_findLeft_49 (zta_11_7 hT hp0) (ztl_11_7 hT hp0) (by decide) ?_
    refine zv_pc (zv_callSl [jv (10 - v6), iv (M5 (zfr w.1 p0 7) p1.toNat)] (c_X11_power κ.2.1 hw (10 - v6) (M5 (zfr w.1 p0 7) p1.toNat) M5 ) zmd_X11_power zwT_X11_power zwM_RX11_437 rfl (by decide) rfl (Nat.le_of_ble_eq_true rfl) dX11_findLeft_50 (fun mh9 v8 h9 => ?_))
    obtain rfl := zpuE h9
    refine zv_lmul dX11_findLeft_53 ?_
    refine zp_RX11_428 dX11_findLeft_54 hp0 (fun M10 => ?_)
    refine zv_rload_n dX11_findLeft_57 0 rfl ?_
    refine zv_rload_n dX11_findLeft_58 0 rfl ?_
    refine zg_RX11_428 dX11_findLeft_59 hp0 ?_
    refine zv_rload_n dX11_findLeft_62 0 rfl ?_
    refine zg_RX11_422 dX11_findLeft_63 hp0 ?_
    refine zv_rload_n dX11_findLeft_66 0 rfl ?_
    refine zg_RX11_419 dX11_findLeft_67 hp0 ?_
    refine zv_isub dX11_findLeft_70 ?_
    refine zv_i2l dX11_findLeft_71 ?_
    refine zv_ldc2 (z := 10) dX11_findLeft_72 zwK_RX11_441 (by decide) ?_
    refine zv_rload_n dX11_findLeft_75 0 rfl ?_
    refine zg_RX11_31 dX11_findLeft_76 hp0 ?_
    refine zv_iload_n dX11_findLeft_79 1 rfl ?_
    refine zv_iald dX11_findLeft_80 (zta_11_7 hT hp0) (ztl_11_7 hT hp0) (by decide) ?_
    refine zv_pc (zv_callSl [jv 10, iv (M10 (zfr w.1 p0 7) p1.toNat)] (c_X11_power κ.2.1 hw 10 (M10 (zfr w.1 p0 7) p1.toNat) M10 ) zmd_X11_power zwT_X11_power zwM_RX11_437 rfl (by decide) rfl (Nat.le_of_ble_eq_true rfl) dX11_findLeft_81 (fun mh12 v11 h12 => ?_))
    obtain rfl := zpuE h12
    refine zv_lmul dX11_findLeft_84 ?_
    refine zv_ladd dX11_findLeft_85 ?_
    refine zp_RX11_431 dX11_findLeft_86 hp0 (fun M13 => ?_)
    exact zv_ret (fun h => h) (zv_vret (v := 0) dX11_findLeft_89)
  exact zv_ret (fun h => h) (zv_vret (v := 0) dX11_findLeft_19)
def fb_X11_isNotLess_10 (k : zK)  (l2 : Int) (l6 : Int) (M0 : zM) (y8 : Int) (y10 : Int) (y12 : Int) : Option ((Int × Int × Int) ⊕ ((Int × Int) ⊕ Int)) :=
  zbr y12 30 (30 ≤ y12) (some (.inr (.inr 1))) (zgd ((0 ≤ y8 ∧ y8 ≤ 9223372036854775807) ∧ 0 < l2 ∧ l2 ≤ 9223372036854775807) (zlt (y8 / l2) (fun x1 => zgd ((0 ≤ y10 ∧ y10 ≤ 9223372036854775807) ∧ 0 < l6 ∧ l6 ≤ 9223372036854775807) (zlt (y10 / l6) (fun x2 => zbl x1 x2 (x1 = x2) (zgd ((0 ≤ y8 ∧ y8 ≤ 9223372036854775807) ∧ 0 < l2 ∧ l2 ≤ 9223372036854775807) (zlt ((y8 % l2) * 1000000) (fun x3 => zgd ((0 ≤ y10 ∧ y10 ≤ 9223372036854775807) ∧ 0 < l6 ∧ l6 ≤ 9223372036854775807) (zlt ((y10 % l6) * 1000000) (fun x4 => zlt (y12 + 1) (fun x5 => some (.inl (x3, x4, x5)))))))) (some (.inr (.inl (x1, x2)))))))))
def f_X11_isNotLess (k : zK)  (p0 : Int) (p2 : Int) (p4 : Int) (p6 : Int) (M0 : zM) : Option Int :=
  zsp2 (zw3 (fb_X11_isNotLess_10 k p2 p6 M0) zfu p0 p4 0) (fun r => some ((r))) (fun x6 x7 => zbl x6 x7 (x6 ≤ x7) (some 0) (some 1))
theorem vl_X11_isNotLess_10 {κ : zC} {w : zW} (hw : zWk w)  (l2 : Int) (l6 : Int)  (M0 : zM) (E : ((Int × Int) ⊕ Int) → Prop) (hX : ∀ (u13 : Int) (u15 : Int), E (.inl (u13, u15)) → zB cX11_isNotLess RX11 17 (some .boolean) κ w (0, 0, 0) 38 [(13, jv u13), (15, jv u15)] [] M0) (hR : ∀ r, E (.inr r) → zRt κ w (0, 0, 0) 1 (M0, r)) (y8 : Int) (y10 : Int) (y12 : Int) :
    zV cX11_isNotLess RX11 17 (some .boolean) κ w (0, 0, 0) 10 [(8, jv y8), (10, jv y10), (12, iv y12), (2, jv l2), (6, jv l6)] [] M0 (zw3 (fb_X11_isNotLess_10 w.1 l2 l6 M0) zfu y8 y10 y12) E := by
  have hT := hw.1
  refine zv_loop3 (fun y8 y10 y12 => [(8, jv y8), (10, jv y10), (12, iv y12), (2, jv l2), (6, jv l6)]) (fun y8 y10 y12 => M0) (fun y8 y10 y12 => ?_) y8 y10 y12
  unfold fb_X11_isNotLess_10
  refine zv_iload dX11_isNotLess_10 2 rfl ?_
  refine zv_bipush (z := 30) dX11_isNotLess_12 (by decide) ?_
  refine zv_icmp_ge (tgt := 79) dX11_isNotLess_14 (by decide) ?_ ?_
  · refine zv_iconst (z := 1) dX11_isNotLess_79 ?_
    exact zv_ret (fun h => hR _ h) (zv_zrB (by decide) dX11_isNotLess_80)
  refine zv_lload dX11_isNotLess_17 0 rfl ?_
  refine zv_lload_n dX11_isNotLess_19 3 rfl ?_
  refine zv_ldiv dX11_isNotLess_20 ?_
  refine zv_lstore dX11_isNotLess_21 (fun x1 => [(13, jv x1), (8, jv y8), (10, jv y10), (12, iv y12), (2, jv l2), (6, jv l6)]) (by decide) (fun _ => rfl) (fun x1 => ?_)
  refine zv_lload dX11_isNotLess_23 2 rfl ?_
  refine zv_lload dX11_isNotLess_25 5 rfl ?_
  refine zv_ldiv dX11_isNotLess_27 ?_
  refine zv_lstore dX11_isNotLess_28 (fun x2 => [(15, jv x2), (13, jv x1), (8, jv y8), (10, jv y10), (12, iv y12), (2, jv l2), (6, jv l6)]) (by decide) (fun _ => rfl) (fun x2 => ?_)
  refine zv_lload dX11_isNotLess_30 1 rfl ?_
  refine zv_lload dX11_isNotLess_32 0 rfl ?_
  refine zv_lcmp_eq (tgt := 52) dX11_isNotLess_34 dX11_isNotLess_35 (by decide) ?_ ?_
  · refine zv_lload dX11_isNotLess_52 2 rfl ?_
    refine zv_lload_n dX11_isNotLess_54 5 rfl ?_
    refine zv_lrem dX11_isNotLess_55 ?_
    refine zv_ldc2 (z := 1000000) dX11_isNotLess_56 zwK_RX11_462 (by decide) ?_
    refine zv_lmul dX11_isNotLess_59 ?_
    refine zv_lstore dX11_isNotLess_60 (fun x3 => [(8, jv x3), (15, jv x2), (13, jv x1), (10, jv y10), (12, iv y12), (2, jv l2), (6, jv l6)]) (by decide) (fun _ => rfl) (fun x3 => ?_)
    refine zv_lload dX11_isNotLess_62 3 rfl ?_
    refine zv_lload dX11_isNotLess_64 6 rfl ?_
    refine zv_lrem dX11_isNotLess_66 ?_
    refine zv_ldc2 (z := 1000000) dX11_isNotLess_67 zwK_RX11_462 (by decide) ?_
    refine zv_lmul dX11_isNotLess_70 ?_
    refine zv_lstore dX11_isNotLess_71 (fun x4 => [(10, jv x4), (8, jv x3), (15, jv x2), (13, jv x1), (12, iv y12), (2, jv l2), (6, jv l6)]) (by decide) (fun _ => rfl) (fun x4 => ?_)
    refine zv_iinc dX11_isNotLess_73 4 rfl (fun x5 => [(12, iv x5), (10, jv x4), (8, jv x3), (15, jv x2), (13, jv x1), (2, jv l2), (6, jv l6)]) (by decide) (fun _ => rfl) (fun x5 => ?_)
    refine zv_goto (tgt := 10) dX11_isNotLess_76 (by decide) ?_
    exact zv_sub (L' := [(8, jv x3), (10, jv x4), (12, iv x5), (2, jv l2), (6, jv l6)]) [2, 1, 0, 5, 6] rfl (zv_exit (fun h => h))
  exact zv_sub (L' := [(13, jv x1), (15, jv x2)]) [1, 0] rfl (zv_exit (fun h => hX _ _ h))
theorem c_X11_isNotLess (l : Launch) {w : zW} (hw : zWk w)  (p0 : Int) (p2 : Int) (p4 : Int) (p6 : Int) (M0 : zM)  : zCn l yX11_isNotLess cX11_isNotLess 17 (some .boolean) (0) 1 w [jv p0, jv p2, jv p4, jv p6] M0 ((f_X11_isNotLess w.1 p0 p2 p4 p6 M0).map fun v => (M0, v)) := by
  have hT := hw.1
  refine zCn_ofP (own := RX11) (by decide) rfl hw (Nat.le_of_ble_eq_true rfl) [(0, jv p0), (2, jv p2), (4, jv p4), (6, jv p6)] rfl ?_
  intro κ hl
  subst hl
  unfold f_X11_isNotLess
  refine zv_lload_n dX11_isNotLess_0 0 rfl ?_
  refine zv_lstore_p (L' := [(8, jv p0), (0, jv p0), (2, jv p2), (4, jv p4), (6, jv p6)]) dX11_isNotLess_1 (by decide) rfl ?_
  refine zv_lload dX11_isNotLess_3 3 rfl ?_
  refine zv_lstore_p (L' := [(10, jv p4), (8, jv p0), (0, jv p0), (2, jv p2), (4, jv p4), (6, jv p6)]) dX11_isNotLess_5 (by decide) rfl ?_
  refine zv_iconst (z := 0) dX11_isNotLess_7 ?_
  refine zv_istore_p (L' := [(12, iv 0), (10, jv p4), (8, jv p0), (0, jv p0), (2, jv p2), (4, jv p4), (6, jv p6)]) dX11_isNotLess_8 (by decide) rfl ?_
  refine zv_joinS2 (fun r => (r)) 38 (fun x6 x7 => [(13, jv x6), (15, jv x7)]) (fun x6 x7 => []) (fun x6 x7 => M0) (zv_sub (L' := [(8, jv p0), (10, jv p4), (12, iv 0), (2, jv p2), (6, jv p6)]) [2, 1, 0, 4, 6] rfl (vl_X11_isNotLess_10 hw p2 p6 M0 _ (fun _ _ h => h) (fun _ h => ((fun h => h)) h) p0 p4 0)) (fun x6 x7 => ?_)
  refine zv_lload dX11_isNotLess_38 0 rfl ?_
  refine zv_lload dX11_isNotLess_40 1 rfl ?_
  refine zv_lcmp_le (tgt := 50) dX11_isNotLess_42 dX11_isNotLess_43 (by decide) ?_ ?_
  · refine zv_iconst (z := 0) dX11_isNotLess_50 ?_
    exact zv_ret (fun h => h) (zv_zrB (by decide) dX11_isNotLess_51)
  refine zv_iconst (z := 1) dX11_isNotLess_46 ?_
  refine zv_goto (tgt := 51) dX11_isNotLess_47 (by decide) ?_
  exact zv_ret (fun h => h) (zv_zrB (by decide) dX11_isNotLess_51)
def fb_X11_doubt_33 (k : zK)  (l0 : Nat) (y2 : Int) (y3 : Int) (y5 : Int) (y7 : Int) (M0 : zM) : Option ((Int × Int × Int × Int × zM) ⊕ (Int × zM)) :=
  zgd (0 ≤ (0 : Int) ∧ (0 : Int) < 4) (zbr y7 (M0 (zfr k l0 3) (Int.toNat 0)) (M0 (zfr k l0 3) (Int.toNat 0) ≤ y7) (some (.inr (y2, M0))) (zgd (0 ≤ y7 ∧ y7 < 40) (zb1 (f_X11_findLeft k l0 (M0 (zfr k l0 14) y7.toNat) M0) (fun M4 => zb1 (f_X11_divisor k (M4 l0 63) (M4 l0 64) M4) (fun v5 => zgd ((0 ≤ M4 l0 63 ∧ M4 l0 63 ≤ 9223372036854775807) ∧ 0 < v5 ∧ v5 ≤ 9223372036854775807) (zlt ((M4 l0 63) / v5) (fun x7 => zgd ((0 ≤ M4 l0 64 ∧ M4 l0 64 ≤ 9223372036854775807) ∧ 0 < v5 ∧ v5 ≤ 9223372036854775807) (zlt ((M4 l0 64) / v5) (fun x8 => zb1 (zbl (2 * x7) x8 (2 * x7 ≤ x8) (some (x8 - (2 * x7))) (some ((2 * x7) - x8))) (fun x9 => zsp1 (zbr y2 0 (y2 < 0) (some (.inl y7)) (zb1 (f_X11_isNotLess k x9 x8 y3 y5 M4) (fun v10 => zbr v10 0 (v10 = 0) (some (.inl y7)) (zlt (y7 + 1) (fun x12 => some (.inr (.inl (y2, y3, y5, x12, M4)))))))) (fun r => some r) (fun x13 => zlt (x13 + 1) (fun x14 => some (.inl (x13, x9, x8, x14, M4))))))))))))))
def f_X11_doubt (k : zK)  (p0 : Nat) (p1 : Int) (M0 : zM) : Option (zM × Int) :=
  zb1 (f_X11_isAge k p1 M0) (fun v1 => zbr v1 0 (v1 = 0) (some (M0, (-1))) (zgd (0 ≤ (0 : Int) ∧ (0 : Int) < 4) (zbr (M0 (zfr k p0 3) (Int.toNat 0)) 0 (¬ M0 (zfr k p0 3) (Int.toNat 0) = 0) (zb1 (f_X11_finds k p0 p1 M0) (fun M3 => zb2 (zw5 (fb_X11_doubt_33 k p0) zfu (-1) 0 1 0 M3) (fun x15 M16 => some (M16, x15)))) (some (M0, (-1))))))
set_option maxRecDepth 20000 in
theorem vl_X11_doubt_33 {κ : zC} {w : zW} (hw : zWk w)  (l0 : Nat) (g0 : ztag w.1 l0 = 12)  (E : (Int × zM) → Prop) (hX : ∀ (u2 : Int) (M1 : zM), E (u2, M1) → zB cX11_doubt RX11 16 (some .int) κ w (0, 0, 4) 157 [(2, iv u2)] [] M1)  (y2 : Int) (y3 : Int) (y5 : Int) (y7 : Int) (M0 : zM) :
    zV cX11_doubt RX11 16 (some .int) κ w (0, 0, 4) 33 [(2, iv y2), (3, jv y3), (5, jv y5), (7, iv y7), (0, rn w l0)] [] M0 (zw5 (fb_X11_doubt_33 w.1 l0) zfu y2 y3 y5 y7 M0) E := by
  have hT := hw.1
  refine zv_loop5 (fun y2 y3 y5 y7 M0 => [(2, iv y2), (3, jv y3), (5, jv y5), (7, iv y7), (0, rn w l0)]) (fun y2 y3 y5 y7 M0 => M0) (fun y2 y3 y5 y7 M0 => ?_) y2 y3 y5 y7 M0
  unfold fb_X11_doubt_33
  refine zv_iload dX11_doubt_33 3 rfl ?_
  refine zv_rload_n dX11_doubt_35 4 rfl ?_
  refine zg_RX11_19 dX11_doubt_36 g0 ?_
  refine zv_iconst (z := 0) dX11_doubt_39 ?_
  refine zv_iald dX11_doubt_40 (zta_11_3 hT g0) (ztl_11_3 hT g0) (by decide) ?_
  refine zv_icmp_ge (tgt := 157) dX11_doubt_41 (by decide) ?_ ?_
  · exact zv_sub (L' := [(2, iv y2)]) [0] rfl (zv_exit (fun h => hX _ _ h))
  refine zv_rload_n dX11_doubt_44 4 rfl ?_
  refine zv_rload_n dX11_doubt_45 4 rfl ?_
  refine zg_RX11_52 dX11_doubt_46 g0 ?_
  refine zv_iload dX11_doubt_49 3 rfl ?_
  refine zv_iald dX11_doubt_51 (zta_11_14 hT g0) (ztl_11_14 hT g0) (by decide) ?_
  refine zv_vc (zv_callVv [iv (M0 (zfr w.1 l0 14) y7.toNat)] (c_X11_findLeft κ.2.1 hw l0 (M0 (zfr w.1 l0 14) y7.toNat) M0 g0) zmd_X11_findLeft zwI_X11_findLeft zwS_X11_findLeft zwM_RX11_443 zcd_11 g0 rfl (by decide) rfl (Nat.le_of_ble_eq_true rfl) dX11_doubt_52 (fun M4 _ _ => ?_))
  refine zv_rload_n dX11_doubt_55 4 rfl ?_
  refine zg_RX11_428 dX11_doubt_56 g0 ?_
  refine zv_rload_n dX11_doubt_59 4 rfl ?_
  refine zg_RX11_431 dX11_doubt_60 g0 ?_
  refine zv_pc (zv_callSl [jv (M4 l0 63), jv (M4 l0 64)] (c_X11_divisor κ.2.1 hw (M4 l0 63) (M4 l0 64) M4 ) zmd_X11_divisor zwT_X11_divisor zwM_RX11_397 rfl (by decide) rfl (Nat.le_of_ble_eq_true rfl) dX11_doubt_63 (fun mh6 v5 h6 => ?_))
  obtain rfl := zpuE h6
  refine zv_lstore_p (L' := [(8, jv v5), (2, iv y2), (3, jv y3), (5, jv y5), (7, iv y7), (0, rn w l0)]) dX11_doubt_66 (by decide) rfl ?_
  refine zv_rload_n dX11_doubt_68 5 rfl ?_
  refine zg_RX11_428 dX11_doubt_69 g0 ?_
  refine zv_lload dX11_doubt_72 0 rfl ?_
  refine zv_ldiv dX11_doubt_74 ?_
  refine zv_lstore dX11_doubt_75 (fun x7 => [(10, jv x7), (8, jv v5), (2, iv y2), (3, jv y3), (5, jv y5), (7, iv y7), (0, rn w l0)]) (by decide) (fun _ => rfl) (fun x7 => ?_)
  refine zv_rload_n dX11_doubt_77 6 rfl ?_
  refine zg_RX11_431 dX11_doubt_78 g0 ?_
  refine zv_lload dX11_doubt_81 1 rfl ?_
  refine zv_ldiv dX11_doubt_83 ?_
  refine zv_lstore dX11_doubt_84 (fun x8 => [(12, jv x8), (10, jv x7), (8, jv v5), (2, iv y2), (3, jv y3), (5, jv y5), (7, iv y7), (0, rn w l0)]) (by decide) (fun _ => rfl) (fun x8 => ?_)
  refine zv_ldc2 (z := 2) dX11_doubt_86 zwK_RX11_494 (by decide) ?_
  refine zv_lload dX11_doubt_89 1 rfl ?_
  refine zv_lmul dX11_doubt_91 ?_
  refine zv_lload dX11_doubt_92 0 rfl ?_
  refine zv_join1 119 (fun x9 => [(12, jv x8), (2, iv y2), (3, jv y3), (5, jv y5), (7, iv y7), (0, rn w l0)]) (fun x9 => [jv x9]) (fun x9 => M4) ?_ (fun x9 => ?_)
  · refine zv_lcmp_le (tgt := 110) dX11_doubt_94 dX11_doubt_95 (by decide) ?_ ?_
    · refine zv_lload dX11_doubt_110 0 rfl ?_
      refine zv_ldc2 (z := 2) dX11_doubt_112 zwK_RX11_494 (by decide) ?_
      refine zv_lload dX11_doubt_115 1 rfl ?_
      refine zv_lmul dX11_doubt_117 ?_
      refine zv_lsub dX11_doubt_118 ?_
      exact zv_sub (L' := [(12, jv x8), (2, iv y2), (3, jv y3), (5, jv y5), (7, iv y7), (0, rn w l0)]) [0, 3, 4, 5, 6, 7] rfl (zv_exit (fun h => h))
    refine zv_ldc2 (z := 2) dX11_doubt_98 zwK_RX11_494 (by decide) ?_
    refine zv_lload dX11_doubt_101 1 rfl ?_
    refine zv_lmul dX11_doubt_103 ?_
    refine zv_lload dX11_doubt_104 0 rfl ?_
    refine zv_lsub dX11_doubt_106 ?_
    refine zv_goto (tgt := 119) dX11_doubt_107 (by decide) ?_
    exact zv_sub (L' := [(12, jv x8), (2, iv y2), (3, jv y3), (5, jv y5), (7, iv y7), (0, rn w l0)]) [0, 3, 4, 5, 6, 7] rfl (zv_exit (fun h => h))
  refine zv_lstore_p (L' := [(14, jv x9), (12, jv x8), (2, iv y2), (3, jv y3), (5, jv y5), (7, iv y7), (0, rn w l0)]) dX11_doubt_119 (by decide) rfl ?_
  refine zv_iload_n dX11_doubt_121 2 rfl ?_
  refine zv_joinS1 (fun r => r) 141 (fun x13 => [(7, iv x13), (14, jv x9), (12, jv x8), (0, rn w l0)]) (fun x13 => []) (fun x13 => M4) ?_ (fun x13 => ?_)
  · refine zv_if_lt (tgt := 141) dX11_doubt_122 (by decide) ?_ ?_
    · exact zv_sub (L' := [(7, iv y7), (14, jv x9), (12, jv x8), (0, rn w l0)]) [5, 0, 1, 6] rfl (zv_exit (fun h => h))
    refine zv_lload dX11_doubt_125 0 rfl ?_
    refine zv_lload dX11_doubt_127 1 rfl ?_
    refine zv_lload_n dX11_doubt_129 3 rfl ?_
    refine zv_lload dX11_doubt_130 4 rfl ?_
    refine zv_pc (zv_callSi [jv x9, jv x8, jv y3, jv y5] (c_X11_isNotLess κ.2.1 hw x9 x8 y3 y5 M4 ) zmd_X11_isNotLess zwT_X11_isNotLess zwM_RX11_508 rfl (by decide) rfl (Nat.le_of_ble_eq_true rfl) dX11_doubt_132 (fun mh11 v10 h11 => ?_))
    obtain rfl := zpuE h11
    refine zv_if_eq (tgt := 141) dX11_doubt_135 (by decide) ?_ ?_
    · exact zv_sub (L' := [(7, iv y7), (14, jv x9), (12, jv x8), (0, rn w l0)]) [5, 0, 1, 6] rfl (zv_exit (fun h => h))
    refine zv_goto (tgt := 151) dX11_doubt_138 (by decide) ?_
    refine zv_iinc dX11_doubt_151 5 rfl (fun x12 => [(7, iv x12), (14, jv x9), (12, jv x8), (2, iv y2), (3, jv y3), (5, jv y5), (0, rn w l0)]) (by decide) (fun _ => rfl) (fun x12 => ?_)
    refine zv_goto (tgt := 33) dX11_doubt_154 (by decide) ?_
    exact zv_sub (L' := [(2, iv y2), (3, jv y3), (5, jv y5), (7, iv x12), (0, rn w l0)]) [3, 4, 5, 0, 6] rfl (zv_exit (fun h => h))
  refine zv_iload dX11_doubt_141 0 rfl ?_
  refine zv_istore_np (L' := [(2, iv x13), (7, iv x13), (14, jv x9), (12, jv x8), (0, rn w l0)]) (by rfl) dX11_doubt_143 (by decide) rfl ?_
  refine zv_lload dX11_doubt_144 2 rfl ?_
  refine zv_lstore_np (L' := [(3, jv x9), (2, iv x13), (7, iv x13), (14, jv x9), (12, jv x8), (0, rn w l0)]) (by rfl) dX11_doubt_146 (by decide) rfl ?_
  refine zv_lload dX11_doubt_147 4 rfl ?_
  refine zv_lstore_p (L' := [(5, jv x8), (3, jv x9), (2, iv x13), (7, iv x13), (14, jv x9), (12, jv x8), (0, rn w l0)]) dX11_doubt_149 (by decide) rfl ?_
  refine zv_iinc dX11_doubt_151 3 rfl (fun x14 => [(7, iv x14), (5, jv x8), (3, jv x9), (2, iv x13), (14, jv x9), (12, jv x8), (0, rn w l0)]) (by decide) (fun _ => rfl) (fun x14 => ?_)
  refine zv_goto (tgt := 33) dX11_doubt_154 (by decide) ?_
  exact zv_sub (L' := [(2, iv x13), (3, jv x9), (5, jv x8), (7, iv x14), (0, rn w l0)]) [3, 2, 1, 0, 6] rfl (zv_exit (fun h => h))
theorem c_X11_doubt (l : Launch) {w : zW} (hw : zWk w)  (p0 : Nat) (p1 : Int) (M0 : zM) (hp0 : ztag w.1 p0 = 12) : zCn l yX11_doubt cX11_doubt 16 (some .int) (4) 1 w [rn w p0, iv p1] M0 (f_X11_doubt w.1 p0 p1 M0) := by
  have hT := hw.1
  refine zCn_of (own := RX11) (by decide) rfl hw (Nat.le_of_ble_eq_true rfl) [(0, rn w p0), (1, iv p1)] rfl ?_
  intro κ hl
  subst hl
  unfold f_X11_doubt
  refine zv_iload_n dX11_doubt_0 1 rfl ?_
  refine zv_pc (zv_callSi [iv p1] (c_X11_isAge κ.2.1 hw p1 M0 ) zmd_X11_isAge zwT_X11_isAge zwM_RX11_335 rfl (by decide) rfl (Nat.le_of_ble_eq_true rfl) dX11_doubt_1 (fun mh2 v1 h2 => ?_))
  obtain rfl := zpuE h2
  refine zv_if_eq (tgt := 16) dX11_doubt_4 (by decide) ?_ ?_
  · refine zv_iconst (z := (-1)) dX11_doubt_16 ?_
    exact zv_ret (fun h => h) (zv_iret dX11_doubt_17)
  refine zv_rload_n dX11_doubt_7 0 rfl ?_
  refine zg_RX11_19 dX11_doubt_8 hp0 ?_
  refine zv_iconst (z := 0) dX11_doubt_11 ?_
  refine zv_iald dX11_doubt_12 (zta_11_3 hT hp0) (ztl_11_3 hT hp0) (by decide) ?_
  refine zv_if_ne (tgt := 18) dX11_doubt_13 (by decide) ?_ ?_
  · refine zv_rload_n dX11_doubt_18 0 rfl ?_
    refine zv_iload_n dX11_doubt_19 1 rfl ?_
    refine zv_vc (zv_callVv [iv p1] (c_X11_finds κ.2.1 hw p0 p1 M0 hp0) zmd_X11_finds zwI_X11_finds zwS_X11_finds zwM_RX11_385 zcd_11 hp0 rfl (by decide) rfl (Nat.le_of_ble_eq_true rfl) dX11_doubt_20 (fun M3 _ _ => ?_))
    refine zv_iconst (z := (-1)) dX11_doubt_23 ?_
    refine zv_istore_np (L' := [(2, iv (-1)), (0, rn w p0), (1, iv p1)]) (by rfl) dX11_doubt_24 (by decide) rfl ?_
    refine zv_lconst (z := 0) dX11_doubt_25 (by decide) ?_
    refine zv_lstore_np (L' := [(3, jv 0), (2, iv (-1)), (0, rn w p0), (1, iv p1)]) (by rfl) dX11_doubt_26 (by decide) rfl ?_
    refine zv_lconst (z := 1) dX11_doubt_27 (by decide) ?_
    refine zv_lstore_p (L' := [(5, jv 1), (3, jv 0), (2, iv (-1)), (0, rn w p0), (1, iv p1)]) dX11_doubt_28 (by decide) rfl ?_
    refine zv_iconst (z := 0) dX11_doubt_30 ?_
    refine zv_istore_p (L' := [(7, iv 0), (5, jv 1), (3, jv 0), (2, iv (-1)), (0, rn w p0), (1, iv p1)]) dX11_doubt_31 (by decide) rfl ?_
    refine zv_join2 157 (fun x15 M16 => [(2, iv x15)]) (fun x15 M16 => []) (fun x15 M16 => M16) (zv_sub (L' := [(2, iv (-1)), (3, jv 0), (5, jv 1), (7, iv 0), (0, rn w p0)]) [3, 2, 1, 0, 4] rfl (vl_X11_doubt_33 hw p0 hp0 _ (fun _ _ h => h) (-1) 0 1 0 M3)) (fun x15 M16 => ?_)
    refine zv_iload_n dX11_doubt_157 0 rfl ?_
    exact zv_ret (fun h => h) (zv_iret dX11_doubt_158)
  refine zv_iconst (z := (-1)) dX11_doubt_16 ?_
  exact zv_ret (fun h => h) (zv_iret dX11_doubt_17)
def f_X11_draw (k : zK)  (p0 : Nat) (p1 : Int) (M0 : zM) : Option (zM × Int) :=
  zlt (zst M0 p0 70 (((M0 p0 70) * 6364136223846793005) + 1442695040888963407)) (fun M1 => zgd (zr p1) (zgd ((0 ≤ zo_lushr (M1 p0 70) 33 ∧ zo_lushr (M1 p0 70) 33 ≤ 9223372036854775807) ∧ 0 < p1 ∧ p1 ≤ 9223372036854775807) (some (M1, (zo_lushr (M1 p0 70) 33) % p1))))
theorem c_X11_draw (l : Launch) {w : zW} (hw : zWk w)  (p0 : Nat) (p1 : Int) (M0 : zM) (hp0 : ztag w.1 p0 = 12) : zCn l yX11_draw cX11_draw 2 (some .int) (0) 1 w [rn w p0, iv p1] M0 (f_X11_draw w.1 p0 p1 M0) := by
  have hT := hw.1
  refine zCn_of (own := RX11) (by decide) rfl hw (Nat.le_of_ble_eq_true rfl) [(0, rn w p0), (1, iv p1)] rfl ?_
  intro κ hl
  subst hl
  unfold f_X11_draw
  refine zv_rload_n dX11_draw_0 0 rfl ?_
  refine zv_rload_n dX11_draw_1 0 rfl ?_
  refine zg_RX11_483 dX11_draw_2 hp0 ?_
  refine zv_ldc2 (z := 6364136223846793005) dX11_draw_5 zwK_RX11_486 (by decide) ?_
  refine zv_lmul dX11_draw_8 ?_
  refine zv_ldc2 (z := 1442695040888963407) dX11_draw_9 zwK_RX11_488 (by decide) ?_
  refine zv_ladd dX11_draw_12 ?_
  refine zp_RX11_483 dX11_draw_13 hp0 (fun M1 => ?_)
  refine zv_rload_n dX11_draw_16 0 rfl ?_
  refine zg_RX11_483 dX11_draw_17 hp0 ?_
  refine zv_bipush (z := 33) dX11_draw_20 (by decide) ?_
  refine zv_lushr dX11_draw_22 ?_
  refine zv_iload_n dX11_draw_23 1 rfl ?_
  refine zv_i2l dX11_draw_24 ?_
  refine zv_lrem dX11_draw_25 ?_
  refine zv_l2i dX11_draw_26 ?_
  exact zv_ret (fun h => h) (zv_iret dX11_draw_27)
def f_X11_dry (k : zK)  (p0 : Nat) (p1 : Int) (p2 : Int) (M0 : zM) : Option (zM × Int) :=
  zb1 (f_X11_within k p1 0 15 M0) (fun v1 => zbr v1 0 (¬ v1 = 0) (zgd (0 ≤ (0 : Int) ∧ (0 : Int) < 4) (zbr (M0 (zfr k p0 1) (Int.toNat 0)) 80 (¬ M0 (zfr k p0 1) (Int.toNat 0) = 80) (zgd (0 ≤ (0 : Int) ∧ (0 : Int) < 4) (zgd (0 ≤ M0 (zfr k p0 1) (Int.toNat 0) ∧ M0 (zfr k p0 1) (Int.toNat 0) < 320) (zlt (zst M0 (zfr k p0 9) (M0 (zfr k p0 1) (Int.toNat 0)).toNat (p1)) (fun M3 => zgd (0 ≤ (0 : Int) ∧ (0 : Int) < 4) (zgd ((p2 = 0 ∨ p2 = 1) ∧ 0 ≤ M3 (zfr k p0 1) (Int.toNat 0) ∧ M3 (zfr k p0 1) (Int.toNat 0) < 320) (zlt (zst M3 (zfr k p0 18) (M3 (zfr k p0 1) (Int.toNat 0)).toNat (p2)) (fun M4 => zgd (0 ≤ (0 : Int) ∧ (0 : Int) < 4) (zgd (0 ≤ (0 : Int) ∧ (0 : Int) < 4) (zlt (zst M4 (zfr k p0 1) (Int.toNat 0) ((M4 (zfr k p0 1) (Int.toNat 0)) + 1)) (fun M5 => zgd (0 ≤ (0 : Int) ∧ (0 : Int) < 4) (some (M5, M5 (zfr k p0 1) (Int.toNat 0))))))))))))) (zbd (f_X11_refuses k p0 1 M0) (fun M7 v6 => some (M7, v6))))) (zbd (f_X11_refuses k p0 0 M0) (fun M9 v8 => some (M9, v8))))
theorem c_X11_dry (l : Launch) {w : zW} (hw : zWk w)  (p0 : Nat) (p1 : Int) (p2 : Int) (M0 : zM) (hp0 : ztag w.1 p0 = 12) : zCn l yX11_dry cX11_dry 3 (some .int) (1) 1 w [rn w p0, iv p1, iv p2] M0 (f_X11_dry w.1 p0 p1 p2 M0) := by
  have hT := hw.1
  refine zCn_of (own := RX11) (by decide) rfl hw (Nat.le_of_ble_eq_true rfl) [(0, rn w p0), (1, iv p1), (2, iv p2)] rfl ?_
  intro κ hl
  subst hl
  unfold f_X11_dry
  refine zv_iload_n dX11_dry_0 1 rfl ?_
  refine zv_iconst (z := 0) dX11_dry_1 ?_
  refine zv_bipush (z := 15) dX11_dry_2 (by decide) ?_
  refine zv_pc (zv_callSi [iv p1, iv 0, iv 15] (c_X11_within κ.2.1 hw p1 0 15 M0 ) zmd_X11_within zwT_X11_within zwM_RX11_183 rfl (by decide) rfl (Nat.le_of_ble_eq_true rfl) dX11_dry_4 (fun mh2 v1 h2 => ?_))
  obtain rfl := zpuE h2
  refine zv_if_ne (tgt := 16) dX11_dry_7 (by decide) ?_ ?_
  · refine zv_rload_n dX11_dry_16 0 rfl ?_
    refine zg_RX11_13 dX11_dry_17 hp0 ?_
    refine zv_iconst (z := 0) dX11_dry_20 ?_
    refine zv_iald dX11_dry_21 (zta_11_1 hT hp0) (ztl_11_1 hT hp0) (by decide) ?_
    refine zv_bipush (z := 80) dX11_dry_22 (by decide) ?_
    refine zv_icmp_ne (tgt := 33) dX11_dry_24 (by decide) ?_ ?_
    · refine zv_rload_n dX11_dry_33 0 rfl ?_
      refine zg_RX11_37 dX11_dry_34 hp0 ?_
      refine zv_rload_n dX11_dry_37 0 rfl ?_
      refine zg_RX11_13 dX11_dry_38 hp0 ?_
      refine zv_iconst (z := 0) dX11_dry_41 ?_
      refine zv_iald dX11_dry_42 (zta_11_1 hT hp0) (ztl_11_1 hT hp0) (by decide) ?_
      refine zv_iload_n dX11_dry_43 1 rfl ?_
      refine zv_iast dX11_dry_44 (zta_11_9 hT hp0) (ztl_11_9 hT hp0) (by decide) (fun M3 => ?_)
      refine zv_rload_n dX11_dry_45 0 rfl ?_
      refine zg_RX11_64 dX11_dry_46 hp0 ?_
      refine zv_rload_n dX11_dry_49 0 rfl ?_
      refine zg_RX11_13 dX11_dry_50 hp0 ?_
      refine zv_iconst (z := 0) dX11_dry_53 ?_
      refine zv_iald dX11_dry_54 (zta_11_1 hT hp0) (ztl_11_1 hT hp0) (by decide) ?_
      refine zv_iload_n dX11_dry_55 2 rfl ?_
      refine zv_zast dX11_dry_56 (zta_11_18 hT hp0) (ztl_11_18 hT hp0) (by decide) (fun M4 => ?_)
      refine zv_rload_n dX11_dry_57 0 rfl ?_
      refine zg_RX11_13 dX11_dry_58 hp0 ?_
      refine zv_iconst (z := 0) dX11_dry_61 ?_
      refine zv_dup2 dX11_dry_62 rfl rfl ?_
      refine zv_iald dX11_dry_63 (zta_11_1 hT hp0) (ztl_11_1 hT hp0) (by decide) ?_
      refine zv_iconst (z := 1) dX11_dry_64 ?_
      refine zv_iadd dX11_dry_65 ?_
      refine zv_iast dX11_dry_66 (zta_11_1 hT hp0) (ztl_11_1 hT hp0) (by decide) (fun M5 => ?_)
      refine zv_rload_n dX11_dry_67 0 rfl ?_
      refine zg_RX11_13 dX11_dry_68 hp0 ?_
      refine zv_iconst (z := 0) dX11_dry_71 ?_
      refine zv_iald dX11_dry_72 (zta_11_1 hT hp0) (ztl_11_1 hT hp0) (by decide) ?_
      exact zv_ret (fun h => h) (zv_iret dX11_dry_73)
    refine zv_rload_n dX11_dry_27 0 rfl ?_
    refine zv_iconst (z := 1) dX11_dry_28 ?_
    refine (zv_callVi [iv 1] (c_X11_refuses κ.2.1 hw p0 1 M0 hp0) zmd_X11_refuses zwI_X11_refuses zwS_X11_refuses zwM_RX11_175 zcd_11 hp0 rfl (by decide) rfl (Nat.le_of_ble_eq_true rfl) dX11_dry_29 (fun M7 v6 _ => ?_))
    exact zv_ret (fun h => h) (zv_iret dX11_dry_32)
  refine zv_rload_n dX11_dry_10 0 rfl ?_
  refine zv_iconst (z := 0) dX11_dry_11 ?_
  refine (zv_callVi [iv 0] (c_X11_refuses κ.2.1 hw p0 0 M0 hp0) zmd_X11_refuses zwI_X11_refuses zwS_X11_refuses zwM_RX11_175 zcd_11 hp0 rfl (by decide) rfl (Nat.le_of_ble_eq_true rfl) dX11_dry_12 (fun M9 v8 _ => ?_))
  exact zv_ret (fun h => h) (zv_iret dX11_dry_15)
def fb_X11_endOf_2 (k : zK)  (l0 : Nat) (M0 : zM) (y2 : Int) : Option ((Int) ⊕ (Int)) :=
  zgd (0 ≤ y2 ∧ y2 < 256) (zbr (M0 (zfr k l0 52) y2.toNat) 0 (M0 (zfr k l0 52) y2.toNat < 0) (some (.inr y2)) (zgd (0 ≤ y2 ∧ y2 < 256) (zlt (M0 (zfr k l0 52) y2.toNat) (fun x1 => some (.inl (x1))))))
def f_X11_endOf (k : zK)  (p0 : Nat) (p1 : Int) (M0 : zM) : Option Int :=
  zb1 (zw1 (fb_X11_endOf_2 k p0 M0) zfu p1) (fun x2 => some x2)
theorem vl_X11_endOf_2 {κ : zC} {w : zW} (hw : zWk w)  (l0 : Nat) (g0 : ztag w.1 l0 = 12) (M0 : zM) (E : (Int) → Prop) (hX : ∀ (u2 : Int), E u2 → zB cX11_endOf RX11 3 (some .int) κ w (0, 0, 0) 21 [(2, iv u2)] [] M0)  (y2 : Int) :
    zV cX11_endOf RX11 3 (some .int) κ w (0, 0, 0) 2 [(2, iv y2), (0, rn w l0)] [] M0 (zw1 (fb_X11_endOf_2 w.1 l0 M0) zfu y2) E := by
  have hT := hw.1
  refine zv_loop1 (fun y2 => [(2, iv y2), (0, rn w l0)]) (fun y2 => M0) (fun y2 => ?_) y2
  unfold fb_X11_endOf_2
  refine zv_rload_n dX11_endOf_2 1 rfl ?_
  refine zg_RX11_130 dX11_endOf_3 g0 ?_
  refine zv_iload_n dX11_endOf_6 0 rfl ?_
  refine zv_iald dX11_endOf_7 (zta_11_52 hT g0) (ztl_11_52 hT g0) (by decide) ?_
  refine zv_if_lt (tgt := 21) dX11_endOf_8 (by decide) ?_ ?_
  · exact zv_sub (L' := [(2, iv y2)]) [0] rfl (zv_exit (fun h => hX _ h))
  refine zv_rload_n dX11_endOf_11 1 rfl ?_
  refine zg_RX11_130 dX11_endOf_12 g0 ?_
  refine zv_iload_n dX11_endOf_15 0 rfl ?_
  refine zv_iald dX11_endOf_16 (zta_11_52 hT g0) (ztl_11_52 hT g0) (by decide) ?_
  refine zv_istore_n (i := 2) (by rfl) dX11_endOf_17 (fun x1 => [(2, iv x1), (0, rn w l0)]) (by decide) (fun _ => rfl) (fun x1 => ?_)
  refine zv_goto (tgt := 2) dX11_endOf_18 (by decide) ?_
  exact zv_sub (L' := [(2, iv x1), (0, rn w l0)]) [0, 1] rfl (zv_exit (fun h => h))
theorem c_X11_endOf (l : Launch) {w : zW} (hw : zWk w)  (p0 : Nat) (p1 : Int) (M0 : zM) (hp0 : ztag w.1 p0 = 12) : zCn l yX11_endOf cX11_endOf 3 (some .int) (0) 1 w [rn w p0, iv p1] M0 ((f_X11_endOf w.1 p0 p1 M0).map fun v => (M0, v)) := by
  have hT := hw.1
  refine zCn_ofP (own := RX11) (by decide) rfl hw (Nat.le_of_ble_eq_true rfl) [(0, rn w p0), (1, iv p1)] rfl ?_
  intro κ hl
  subst hl
  unfold f_X11_endOf
  refine zv_iload_n dX11_endOf_0 1 rfl ?_
  refine zv_istore_np (L' := [(2, iv p1), (0, rn w p0), (1, iv p1)]) (by rfl) dX11_endOf_1 (by decide) rfl ?_
  refine zv_join1 21 (fun x2 => [(2, iv x2)]) (fun x2 => []) (fun x2 => M0) (zv_sub (L' := [(2, iv p1), (0, rn w p0)]) [0, 1] rfl (vl_X11_endOf_2 hw p0 hp0 M0 _ (fun _ h => h) p1)) (fun x2 => ?_)
  refine zv_iload_n dX11_endOf_21 0 rfl ?_
  exact zv_ret (fun h => h) (zv_iret dX11_endOf_22)
def fb_X11_ends_34 (k : zK)  (l0 : Nat) (l2 : Int) (l3 : Int) (M0 : zM) (y4 : Int) (y5 : Int) : Option ((Int × Int) ⊕ (Int)) :=
  zbr y5 256 (256 ≤ y5) (some (.inr y4)) (zb1 (f_X11_endOf k l0 y5 M0) (fun v8 => zbr v8 l3 (¬ v8 = l3) (zlt (y4 + 0) (fun x10 => zlt (y5 + 1) (fun x11 => some (.inl (x10, x11))))) (zlt (y4 + 1) (fun x12 => zlt (y5 + 1) (fun x13 => some (.inl (x12, x13)))))))
def f_X11_ends (k : zK)  (p0 : Nat) (p1 : Int) (p2 : Int) (M0 : zM) : Option (zM × Int) :=
  zb1 (f_X11_isCell k p1 M0) (fun v1 => zbr v1 0 (v1 = 0) (some (M0, (-1))) (zb1 (f_X11_within k p2 0 1 M0) (fun v3 => zbr v3 0 (¬ v3 = 0) (zb1 (f_X11_findGround k p0 M0) (fun M5 => zb1 (f_X11_endOf k p0 p1 M5) (fun v6 => zb1 (zw2 (fb_X11_ends_34 k p0 p2 v6 M5) zfu 0 0) (fun x14 => zbr p2 0 (¬ p2 = 0) (some (M5, x14)) (some (M5, v6)))))) (some (M0, (-1))))))
theorem vl_X11_ends_34 {κ : zC} {w : zW} (hw : zWk w)  (l0 : Nat) (l2 : Int) (l3 : Int) (g0 : ztag w.1 l0 = 12) (M0 : zM) (E : (Int) → Prop) (hX : ∀ (u4 : Int), E u4 → zB cX11_ends RX11 6 (some .int) κ w (0, 0, 3) 68 [(2, iv l2), (3, iv l3), (4, iv u4)] [] M0)  (y4 : Int) (y5 : Int) :
    zV cX11_ends RX11 6 (some .int) κ w (0, 0, 3) 34 [(4, iv y4), (5, iv y5), (0, rn w l0), (2, iv l2), (3, iv l3)] [] M0 (zw2 (fb_X11_ends_34 w.1 l0 l2 l3 M0) zfu y4 y5) E := by
  have hT := hw.1
  refine zv_loop2 (fun y4 y5 => [(4, iv y4), (5, iv y5), (0, rn w l0), (2, iv l2), (3, iv l3)]) (fun y4 y5 => M0) (fun y4 y5 => ?_) y4 y5
  unfold fb_X11_ends_34
  refine zv_iload dX11_ends_34 1 rfl ?_
  refine zv_sipush (z := 256) dX11_ends_36 (by decide) ?_
  refine zv_icmp_ge (tgt := 68) dX11_ends_39 (by decide) ?_ ?_
  · exact zv_sub (L' := [(2, iv l2), (3, iv l3), (4, iv y4)]) [3, 4, 0] rfl (zv_exit (fun h => hX _ h))
  refine zv_iload dX11_ends_42 0 rfl ?_
  refine zv_rload_n dX11_ends_44 2 rfl ?_
  refine zv_iload dX11_ends_45 1 rfl ?_
  refine zv_pc (zv_callVi [iv y5] (c_X11_endOf κ.2.1 hw l0 y5 M0 g0) zmd_X11_endOf zwI_X11_endOf zwS_X11_endOf zwM_RX11_499 zcd_11 g0 rfl (by decide) rfl (Nat.le_of_ble_eq_true rfl) dX11_ends_47 (fun mh9 v8 h9 => ?_))
  obtain rfl := zpuE h9
  refine zv_iload_n dX11_ends_50 4 rfl ?_
  refine zv_icmp_ne (tgt := 58) dX11_ends_51 (by decide) ?_ ?_
  · refine zv_iconst (z := 0) dX11_ends_58 ?_
    refine zv_iadd dX11_ends_59 ?_
    refine zv_istore dX11_ends_60 (fun x10 => [(4, iv x10), (5, iv y5), (0, rn w l0), (2, iv l2), (3, iv l3)]) (by decide) (fun _ => rfl) (fun x10 => ?_)
    refine zv_iinc dX11_ends_62 1 rfl (fun x11 => [(5, iv x11), (4, iv x10), (0, rn w l0), (2, iv l2), (3, iv l3)]) (by decide) (fun _ => rfl) (fun x11 => ?_)
    refine zv_goto (tgt := 34) dX11_ends_65 (by decide) ?_
    exact zv_sub (L' := [(4, iv x10), (5, iv x11), (0, rn w l0), (2, iv l2), (3, iv l3)]) [1, 0, 2, 3, 4] rfl (zv_exit (fun h => h))
  refine zv_iconst (z := 1) dX11_ends_54 ?_
  refine zv_goto (tgt := 59) dX11_ends_55 (by decide) ?_
  refine zv_iadd dX11_ends_59 ?_
  refine zv_istore dX11_ends_60 (fun x12 => [(4, iv x12), (5, iv y5), (0, rn w l0), (2, iv l2), (3, iv l3)]) (by decide) (fun _ => rfl) (fun x12 => ?_)
  refine zv_iinc dX11_ends_62 1 rfl (fun x13 => [(5, iv x13), (4, iv x12), (0, rn w l0), (2, iv l2), (3, iv l3)]) (by decide) (fun _ => rfl) (fun x13 => ?_)
  refine zv_goto (tgt := 34) dX11_ends_65 (by decide) ?_
  exact zv_sub (L' := [(4, iv x12), (5, iv x13), (0, rn w l0), (2, iv l2), (3, iv l3)]) [1, 0, 2, 3, 4] rfl (zv_exit (fun h => h))
theorem c_X11_ends (l : Launch) {w : zW} (hw : zWk w)  (p0 : Nat) (p1 : Int) (p2 : Int) (M0 : zM) (hp0 : ztag w.1 p0 = 12) : zCn l yX11_ends cX11_ends 6 (some .int) (3) 1 w [rn w p0, iv p1, iv p2] M0 (f_X11_ends w.1 p0 p1 p2 M0) := by
  have hT := hw.1
  refine zCn_of (own := RX11) (by decide) rfl hw (Nat.le_of_ble_eq_true rfl) [(0, rn w p0), (1, iv p1), (2, iv p2)] rfl ?_
  intro κ hl
  subst hl
  unfold f_X11_ends
  refine zv_iload_n dX11_ends_0 1 rfl ?_
  refine zv_pc (zv_callSi [iv p1] (c_X11_isCell κ.2.1 hw p1 M0 ) zmd_X11_isCell zwT_X11_isCell zwM_RX11_191 rfl (by decide) rfl (Nat.le_of_ble_eq_true rfl) dX11_ends_1 (fun mh2 v1 h2 => ?_))
  obtain rfl := zpuE h2
  refine zv_if_eq (tgt := 16) dX11_ends_4 (by decide) ?_ ?_
  · refine zv_iconst (z := (-1)) dX11_ends_16 ?_
    exact zv_ret (fun h => h) (zv_iret dX11_ends_17)
  refine zv_iload_n dX11_ends_7 2 rfl ?_
  refine zv_iconst (z := 0) dX11_ends_8 ?_
  refine zv_iconst (z := 1) dX11_ends_9 ?_
  refine zv_pc (zv_callSi [iv p2, iv 0, iv 1] (c_X11_within κ.2.1 hw p2 0 1 M0 ) zmd_X11_within zwT_X11_within zwM_RX11_183 rfl (by decide) rfl (Nat.le_of_ble_eq_true rfl) dX11_ends_10 (fun mh4 v3 h4 => ?_))
  obtain rfl := zpuE h4
  refine zv_if_ne (tgt := 18) dX11_ends_13 (by decide) ?_ ?_
  · refine zv_rload_n dX11_ends_18 0 rfl ?_
    refine zv_vc (zv_callVv [] (c_X11_findGround κ.2.1 hw p0 M0 hp0) zmd_X11_findGround zwI_X11_findGround zwS_X11_findGround zwM_RX11_362 zcd_11 hp0 rfl (by decide) rfl (Nat.le_of_ble_eq_true rfl) dX11_ends_19 (fun M5 _ _ => ?_))
    refine zv_rload_n dX11_ends_22 0 rfl ?_
    refine zv_iload_n dX11_ends_23 1 rfl ?_
    refine zv_pc (zv_callVi [iv p1] (c_X11_endOf κ.2.1 hw p0 p1 M5 hp0) zmd_X11_endOf zwI_X11_endOf zwS_X11_endOf zwM_RX11_499 zcd_11 hp0 rfl (by decide) rfl (Nat.le_of_ble_eq_true rfl) dX11_ends_24 (fun mh7 v6 h7 => ?_))
    obtain rfl := zpuE h7
    refine zv_istore_np (L' := [(3, iv v6), (0, rn w p0), (1, iv p1), (2, iv p2)]) (by rfl) dX11_ends_27 (by decide) rfl ?_
    refine zv_iconst (z := 0) dX11_ends_28 ?_
    refine zv_istore_p (L' := [(4, iv 0), (3, iv v6), (0, rn w p0), (1, iv p1), (2, iv p2)]) dX11_ends_29 (by decide) rfl ?_
    refine zv_iconst (z := 0) dX11_ends_31 ?_
    refine zv_istore_p (L' := [(5, iv 0), (4, iv 0), (3, iv v6), (0, rn w p0), (1, iv p1), (2, iv p2)]) dX11_ends_32 (by decide) rfl ?_
    refine zv_join1 68 (fun x14 => [(2, iv p2), (3, iv v6), (4, iv x14)]) (fun x14 => []) (fun x14 => M5) (zv_sub (L' := [(4, iv 0), (5, iv 0), (0, rn w p0), (2, iv p2), (3, iv v6)]) [1, 0, 3, 5, 2] rfl (vl_X11_ends_34 hw p0 p2 v6 hp0 M5 _ (fun _ h => h) 0 0)) (fun x14 => ?_)
    refine zv_iload_n dX11_ends_68 0 rfl ?_
    refine zv_if_ne (tgt := 76) dX11_ends_69 (by decide) ?_ ?_
    · refine zv_iload dX11_ends_76 2 rfl ?_
      exact zv_ret (fun h => h) (zv_iret dX11_ends_78)
    refine zv_iload_n dX11_ends_72 1 rfl ?_
    refine zv_goto (tgt := 78) dX11_ends_73 (by decide) ?_
    exact zv_ret (fun h => h) (zv_iret dX11_ends_78)
  refine zv_iconst (z := (-1)) dX11_ends_16 ?_
  exact zv_ret (fun h => h) (zv_iret dX11_ends_17)
def f_X11_fault (k : zK)  (p0 : Nat) (M0 : zM) : Option Int :=
  some (M0 p0 35)
theorem c_X11_fault (l : Launch) {w : zW} (hw : zWk w)  (p0 : Nat) (M0 : zM) (hp0 : ztag w.1 p0 = 12) : zCn l yX11_fault cX11_fault 1 (some .int) (0) 1 w [rn w p0] M0 ((f_X11_fault w.1 p0 M0).map fun v => (M0, v)) := by
  have hT := hw.1
  refine zCn_ofP (own := RX11) (by decide) rfl hw (Nat.le_of_ble_eq_true rfl) [(0, rn w p0)] rfl ?_
  intro κ hl
  subst hl
  unfold f_X11_fault
  refine zv_rload_n dX11_fault_0 0 rfl ?_
  refine zg_RX11_108 dX11_fault_1 hp0 ?_
  exact zv_ret (fun h => h) (zv_iret dX11_fault_4)
def fb_X11_feed_18 (k : zK)  (l0 : Nat) (l1 : Int) (l2 : Int) (l3 : Int) (l4 : Int) (l5 : Int) (y6 : Int) (M0 : zM) : Option ((Int × zM) ⊕ (zM)) :=
  zbr y6 20 (20 ≤ y6) (some (.inr M0)) (zb1 (zbr y6 4 (4 ≤ y6) (zbr y6 8 (8 ≤ y6) (zbr y6 12 (12 ≤ y6) (zbr y6 16 (16 ≤ y6) (some (l5)) (some (l4))) (some (l3))) (some (l2))) (some (l1))) (fun x1 => zgd (0 ≤ y6 ∧ y6 ≤ 2147483647) (zgd (0 ≤ M0 l0 34 ∧ M0 l0 34 < 700) (zlt (zst M0 (zfr k l0 33) (M0 l0 34).toNat (zo_i2b (zo_i2b (zo_shr x1 (24 - (8 * (y6 % 4))))))) (fun M2 => zlt (zst M2 l0 34 ((M2 l0 34) + 1)) (fun M3 => zlt (y6 + 1) (fun x4 => some (.inl (x4, M3)))))))))
def f_X11_feed (k : zK)  (p0 : Nat) (p1 : Int) (p2 : Int) (p3 : Int) (p4 : Int) (p5 : Int) (M0 : zM) : Option (zM × Int) :=
  zbr ((M0 p0 34) + 20) 700 ((M0 p0 34) + 20 ≤ 700) (zb1 (zw2 (fb_X11_feed_18 k p0 p1 p2 p3 p4 p5) zfu 0 M0) (fun M5 => some (M5, M5 p0 34))) (some (M0, (-1)))
set_option maxRecDepth 20000 in
theorem vl_X11_feed_18 {κ : zC} {w : zW} (hw : zWk w)  (l0 : Nat) (l1 : Int) (l2 : Int) (l3 : Int) (l4 : Int) (l5 : Int) (g0 : ztag w.1 l0 = 12)  (E : (zM) → Prop) (hX : ∀  (M1 : zM), E M1 → zB cX11_feed RX11 8 (some .int) κ w (0, 0, 0) 112 [(0, rn w l0)] [] M1)  (y6 : Int) (M0 : zM) :
    zV cX11_feed RX11 8 (some .int) κ w (0, 0, 0) 18 [(6, iv y6), (0, rn w l0), (1, iv l1), (2, iv l2), (3, iv l3), (4, iv l4), (5, iv l5)] [] M0 (zw2 (fb_X11_feed_18 w.1 l0 l1 l2 l3 l4 l5) zfu y6 M0) E := by
  have hT := hw.1
  refine zv_loop2 (fun y6 M0 => [(6, iv y6), (0, rn w l0), (1, iv l1), (2, iv l2), (3, iv l3), (4, iv l4), (5, iv l5)]) (fun y6 M0 => M0) (fun y6 M0 => ?_) y6 M0
  unfold fb_X11_feed_18
  refine zv_iload dX11_feed_18 0 rfl ?_
  refine zv_bipush (z := 20) dX11_feed_20 (by decide) ?_
  refine zv_icmp_ge (tgt := 112) dX11_feed_22 (by decide) ?_ ?_
  · exact zv_sub (L' := [(0, rn w l0)]) [1] rfl (zv_exit (fun h => hX _ h))
  refine zv_iload dX11_feed_25 0 rfl ?_
  refine zv_iconst (z := 4) dX11_feed_27 ?_
  refine zv_join1 71 (fun x1 => [(6, iv y6), (0, rn w l0), (1, iv l1), (2, iv l2), (3, iv l3), (4, iv l4), (5, iv l5)]) (fun x1 => [iv x1]) (fun x1 => M0) ?_ (fun x1 => ?_)
  · refine zv_icmp_ge (tgt := 35) dX11_feed_28 (by decide) ?_ ?_
    · refine zv_iload dX11_feed_35 0 rfl ?_
      refine zv_bipush (z := 8) dX11_feed_37 (by decide) ?_
      refine zv_icmp_ge (tgt := 46) dX11_feed_39 (by decide) ?_ ?_
      · refine zv_iload dX11_feed_46 0 rfl ?_
        refine zv_bipush (z := 12) dX11_feed_48 (by decide) ?_
        refine zv_icmp_ge (tgt := 57) dX11_feed_50 (by decide) ?_ ?_
        · refine zv_iload dX11_feed_57 0 rfl ?_
          refine zv_bipush (z := 16) dX11_feed_59 (by decide) ?_
          refine zv_icmp_ge (tgt := 69) dX11_feed_61 (by decide) ?_ ?_
          · refine zv_iload dX11_feed_69 6 rfl ?_
            exact zv_sub (L' := [(6, iv y6), (0, rn w l0), (1, iv l1), (2, iv l2), (3, iv l3), (4, iv l4), (5, iv l5)]) [0, 1, 2, 3, 4, 5, 6] rfl (zv_exit (fun h => h))
          refine zv_iload dX11_feed_64 5 rfl ?_
          refine zv_goto (tgt := 71) dX11_feed_66 (by decide) ?_
          exact zv_sub (L' := [(6, iv y6), (0, rn w l0), (1, iv l1), (2, iv l2), (3, iv l3), (4, iv l4), (5, iv l5)]) [0, 1, 2, 3, 4, 5, 6] rfl (zv_exit (fun h => h))
        refine zv_iload_n dX11_feed_53 4 rfl ?_
        refine zv_goto (tgt := 71) dX11_feed_54 (by decide) ?_
        exact zv_sub (L' := [(6, iv y6), (0, rn w l0), (1, iv l1), (2, iv l2), (3, iv l3), (4, iv l4), (5, iv l5)]) [0, 1, 2, 3, 4, 5, 6] rfl (zv_exit (fun h => h))
      refine zv_iload_n dX11_feed_42 3 rfl ?_
      refine zv_goto (tgt := 71) dX11_feed_43 (by decide) ?_
      exact zv_sub (L' := [(6, iv y6), (0, rn w l0), (1, iv l1), (2, iv l2), (3, iv l3), (4, iv l4), (5, iv l5)]) [0, 1, 2, 3, 4, 5, 6] rfl (zv_exit (fun h => h))
    refine zv_iload_n dX11_feed_31 2 rfl ?_
    refine zv_goto (tgt := 71) dX11_feed_32 (by decide) ?_
    exact zv_sub (L' := [(6, iv y6), (0, rn w l0), (1, iv l1), (2, iv l2), (3, iv l3), (4, iv l4), (5, iv l5)]) [0, 1, 2, 3, 4, 5, 6] rfl (zv_exit (fun h => h))
  refine zv_istore_p (L' := [(7, iv x1), (6, iv y6), (0, rn w l0), (1, iv l1), (2, iv l2), (3, iv l3), (4, iv l4), (5, iv l5)]) dX11_feed_71 (by decide) rfl ?_
  refine zv_rload_n dX11_feed_73 2 rfl ?_
  refine zg_RX11_104 dX11_feed_74 g0 ?_
  refine zv_rload_n dX11_feed_77 2 rfl ?_
  refine zg_RX11_195 dX11_feed_78 g0 ?_
  refine zv_iload dX11_feed_81 0 rfl ?_
  refine zv_bipush (z := 24) dX11_feed_83 (by decide) ?_
  refine zv_bipush (z := 8) dX11_feed_85 (by decide) ?_
  refine zv_iload dX11_feed_87 1 rfl ?_
  refine zv_iconst (z := 4) dX11_feed_89 ?_
  refine zv_iremc (by decide) dX11_feed_90 ?_
  refine zv_imul dX11_feed_91 ?_
  refine zv_isub dX11_feed_92 ?_
  refine zv_ishr dX11_feed_93 ?_
  refine zv_i2b dX11_feed_94 ?_
  refine zv_bast dX11_feed_95 (zta_11_33 hT g0) (ztl_11_33 hT g0) (by decide) (fun M2 => ?_)
  refine zv_rload_n dX11_feed_96 2 rfl ?_
  refine zv_dup dX11_feed_97 rfl ?_
  refine zg_RX11_195 dX11_feed_98 g0 ?_
  refine zv_iconst (z := 1) dX11_feed_101 ?_
  refine zv_iadd dX11_feed_102 ?_
  refine zp_RX11_195 dX11_feed_103 g0 (fun M3 => ?_)
  refine zv_iinc dX11_feed_106 1 rfl (fun x4 => [(6, iv x4), (7, iv x1), (0, rn w l0), (1, iv l1), (2, iv l2), (3, iv l3), (4, iv l4), (5, iv l5)]) (by decide) (fun _ => rfl) (fun x4 => ?_)
  refine zv_goto (tgt := 18) dX11_feed_109 (by decide) ?_
  exact zv_sub (L' := [(6, iv x4), (0, rn w l0), (1, iv l1), (2, iv l2), (3, iv l3), (4, iv l4), (5, iv l5)]) [0, 2, 3, 4, 5, 6, 7] rfl (zv_exit (fun h => h))
theorem c_X11_feed (l : Launch) {w : zW} (hw : zWk w)  (p0 : Nat) (p1 : Int) (p2 : Int) (p3 : Int) (p4 : Int) (p5 : Int) (M0 : zM) (hp0 : ztag w.1 p0 = 12) : zCn l yX11_feed cX11_feed 8 (some .int) (0) 1 w [rn w p0, iv p1, iv p2, iv p3, iv p4, iv p5] M0 (f_X11_feed w.1 p0 p1 p2 p3 p4 p5 M0) := by
  have hT := hw.1
  refine zCn_of (own := RX11) (by decide) rfl hw (Nat.le_of_ble_eq_true rfl) [(0, rn w p0), (1, iv p1), (2, iv p2), (3, iv p3), (4, iv p4), (5, iv p5)] rfl ?_
  intro κ hl
  subst hl
  unfold f_X11_feed
  refine zv_rload_n dX11_feed_0 0 rfl ?_
  refine zg_RX11_195 dX11_feed_1 hp0 ?_
  refine zv_bipush (z := 20) dX11_feed_4 (by decide) ?_
  refine zv_iadd dX11_feed_6 ?_
  refine zv_sipush (z := 700) dX11_feed_7 (by decide) ?_
  refine zv_icmp_le (tgt := 15) dX11_feed_10 (by decide) ?_ ?_
  · refine zv_iconst (z := 0) dX11_feed_15 ?_
    refine zv_istore_p (L' := [(6, iv 0), (0, rn w p0), (1, iv p1), (2, iv p2), (3, iv p3), (4, iv p4), (5, iv p5)]) dX11_feed_16 (by decide) rfl ?_
    refine zv_join1 112 (fun M5 => [(0, rn w p0)]) (fun M5 => []) (fun M5 => M5) (zv_sub (L' := [(6, iv 0), (0, rn w p0), (1, iv p1), (2, iv p2), (3, iv p3), (4, iv p4), (5, iv p5)]) [0, 1, 2, 3, 4, 5, 6] rfl (vl_X11_feed_18 hw p0 p1 p2 p3 p4 p5 hp0 _ (fun _ h => h) 0 M0)) (fun M5 => ?_)
    refine zv_rload_n dX11_feed_112 0 rfl ?_
    refine zg_RX11_195 dX11_feed_113 hp0 ?_
    exact zv_ret (fun h => h) (zv_iret dX11_feed_116)
  refine zv_iconst (z := (-1)) dX11_feed_13 ?_
  exact zv_ret (fun h => h) (zv_iret dX11_feed_14)
def f_X11_find (k : zK)  (p0 : Nat) (p1 : Int) (p2 : Int) (p3 : Int) (p4 : Int) (M0 : zM) : Option (zM × Int) :=
  zb1 (f_X11_isCell k p1 M0) (fun v1 => zsp1 (zbr v1 0 (v1 = 0) (some (.inl M0)) (zb1 (f_X11_within k p2 0 2 M0) (fun v3 => zbr v3 0 (v3 = 0) (some (.inl M0)) (zb1 (f_X11_areAges k p3 p4 M0) (fun v5 => zbr v5 0 (¬ v5 = 0) (zgd (0 ≤ (0 : Int) ∧ (0 : Int) < 4) (zbr (M0 (zfr k p0 2) (Int.toNat 0)) 60 (¬ M0 (zfr k p0 2) (Int.toNat 0) = 60) (zgd (0 ≤ (0 : Int) ∧ (0 : Int) < 4) (zlt (M0 (zfr k p0 2) (Int.toNat 0)) (fun x7 => zgd (0 ≤ x7 ∧ x7 < 240) (zlt (zst M0 (zfr k p0 10) x7.toNat (p1)) (fun M8 => zgd (0 ≤ x7 ∧ x7 < 240) (zlt (zst M8 (zfr k p0 11) x7.toNat (p2)) (fun M9 => zgd (0 ≤ x7 ∧ x7 < 240) (zlt (zst M9 (zfr k p0 12) x7.toNat (p3)) (fun M10 => zgd (0 ≤ x7 ∧ x7 < 240) (zlt (zst M10 (zfr k p0 13) x7.toNat (p4)) (fun M11 => zgd (0 ≤ (0 : Int) ∧ (0 : Int) < 4) (zgd (0 ≤ (0 : Int) ∧ (0 : Int) < 4) (zlt (zst M11 (zfr k p0 2) (Int.toNat 0) ((M11 (zfr k p0 2) (Int.toNat 0)) + 1)) (fun M12 => some (.inr (M12, x7)))))))))))))))) (zbd (f_X11_refuses k p0 1 M0) (fun M14 v13 => some (.inr (M14, v13)))))) (some (.inl M0))))))) (fun r => some r) (fun M15 => zbd (f_X11_refuses k p0 0 M15) (fun M17 v16 => some (M17, v16))))
set_option maxRecDepth 20000 in
theorem c_X11_find (l : Launch) {w : zW} (hw : zWk w)  (p0 : Nat) (p1 : Int) (p2 : Int) (p3 : Int) (p4 : Int) (M0 : zM) (hp0 : ztag w.1 p0 = 12) : zCn l yX11_find cX11_find 6 (some .int) (2) 1 w [rn w p0, iv p1, iv p2, iv p3, iv p4] M0 (f_X11_find w.1 p0 p1 p2 p3 p4 M0) := by
  have hT := hw.1
  refine zCn_of (own := RX11) (by decide) rfl hw (Nat.le_of_ble_eq_true rfl) [(0, rn w p0), (1, iv p1), (2, iv p2), (3, iv p3), (4, iv p4)] rfl ?_
  intro κ hl
  subst hl
  unfold f_X11_find
  refine zv_iload_n dX11_find_0 1 rfl ?_
  refine zv_pc (zv_callSi [iv p1] (c_X11_isCell κ.2.1 hw p1 M0 ) zmd_X11_isCell zwT_X11_isCell zwM_RX11_191 rfl (by decide) rfl (Nat.le_of_ble_eq_true rfl) dX11_find_1 (fun mh2 v1 h2 => ?_))
  obtain rfl := zpuE h2
  refine zv_joinS1 (fun r => r) 25 (fun M15 => [(0, rn w p0)]) (fun M15 => []) (fun M15 => M15) ?_ (fun M15 => ?_)
  · refine zv_if_eq (tgt := 25) dX11_find_4 (by decide) ?_ ?_
    · exact zv_sub (L' := [(0, rn w p0)]) [0] rfl (zv_exit (fun h => h))
    refine zv_iload_n dX11_find_7 2 rfl ?_
    refine zv_iconst (z := 0) dX11_find_8 ?_
    refine zv_iconst (z := 2) dX11_find_9 ?_
    refine zv_pc (zv_callSi [iv p2, iv 0, iv 2] (c_X11_within κ.2.1 hw p2 0 2 M0 ) zmd_X11_within zwT_X11_within zwM_RX11_183 rfl (by decide) rfl (Nat.le_of_ble_eq_true rfl) dX11_find_10 (fun mh4 v3 h4 => ?_))
    obtain rfl := zpuE h4
    refine zv_if_eq (tgt := 25) dX11_find_13 (by decide) ?_ ?_
    · exact zv_sub (L' := [(0, rn w p0)]) [0] rfl (zv_exit (fun h => h))
    refine zv_iload_n dX11_find_16 3 rfl ?_
    refine zv_iload dX11_find_17 4 rfl ?_
    refine zv_pc (zv_callSi [iv p3, iv p4] (c_X11_areAges κ.2.1 hw p3 p4 M0 ) zmd_X11_areAges zwT_X11_areAges zwM_RX11_407 rfl (by decide) rfl (Nat.le_of_ble_eq_true rfl) dX11_find_19 (fun mh6 v5 h6 => ?_))
    obtain rfl := zpuE h6
    refine zv_if_ne (tgt := 31) dX11_find_22 (by decide) ?_ ?_
    · refine zv_rload_n dX11_find_31 0 rfl ?_
      refine zg_RX11_16 dX11_find_32 hp0 ?_
      refine zv_iconst (z := 0) dX11_find_35 ?_
      refine zv_iald dX11_find_36 (zta_11_2 hT hp0) (ztl_11_2 hT hp0) (by decide) ?_
      refine zv_bipush (z := 60) dX11_find_37 (by decide) ?_
      refine zv_icmp_ne (tgt := 48) dX11_find_39 (by decide) ?_ ?_
      · refine zv_rload_n dX11_find_48 0 rfl ?_
        refine zg_RX11_16 dX11_find_49 hp0 ?_
        refine zv_iconst (z := 0) dX11_find_52 ?_
        refine zv_iald dX11_find_53 (zta_11_2 hT hp0) (ztl_11_2 hT hp0) (by decide) ?_
        refine zv_istore dX11_find_54 (fun x7 => [(5, iv x7), (0, rn w p0), (1, iv p1), (2, iv p2), (3, iv p3), (4, iv p4)]) (by decide) (fun _ => rfl) (fun x7 => ?_)
        refine zv_rload_n dX11_find_56 1 rfl ?_
        refine zg_RX11_40 dX11_find_57 hp0 ?_
        refine zv_iload dX11_find_60 0 rfl ?_
        refine zv_iload_n dX11_find_62 2 rfl ?_
        refine zv_iast dX11_find_63 (zta_11_10 hT hp0) (ztl_11_10 hT hp0) (by decide) (fun M8 => ?_)
        refine zv_rload_n dX11_find_64 1 rfl ?_
        refine zg_RX11_43 dX11_find_65 hp0 ?_
        refine zv_iload dX11_find_68 0 rfl ?_
        refine zv_iload_n dX11_find_70 3 rfl ?_
        refine zv_iast dX11_find_71 (zta_11_11 hT hp0) (ztl_11_11 hT hp0) (by decide) (fun M9 => ?_)
        refine zv_rload_n dX11_find_72 1 rfl ?_
        refine zg_RX11_46 dX11_find_73 hp0 ?_
        refine zv_iload dX11_find_76 0 rfl ?_
        refine zv_iload_n dX11_find_78 4 rfl ?_
        refine zv_iast dX11_find_79 (zta_11_12 hT hp0) (ztl_11_12 hT hp0) (by decide) (fun M10 => ?_)
        refine zv_rload_n dX11_find_80 1 rfl ?_
        refine zg_RX11_49 dX11_find_81 hp0 ?_
        refine zv_iload dX11_find_84 0 rfl ?_
        refine zv_iload dX11_find_86 5 rfl ?_
        refine zv_iast dX11_find_88 (zta_11_13 hT hp0) (ztl_11_13 hT hp0) (by decide) (fun M11 => ?_)
        refine zv_rload_n dX11_find_89 1 rfl ?_
        refine zg_RX11_16 dX11_find_90 hp0 ?_
        refine zv_iconst (z := 0) dX11_find_93 ?_
        refine zv_dup2 dX11_find_94 rfl rfl ?_
        refine zv_iald dX11_find_95 (zta_11_2 hT hp0) (ztl_11_2 hT hp0) (by decide) ?_
        refine zv_iconst (z := 1) dX11_find_96 ?_
        refine zv_iadd dX11_find_97 ?_
        refine zv_iast dX11_find_98 (zta_11_2 hT hp0) (ztl_11_2 hT hp0) (by decide) (fun M12 => ?_)
        refine zv_iload dX11_find_99 0 rfl ?_
        exact zv_ret (fun h => h) (zv_iret dX11_find_101)
      refine zv_rload_n dX11_find_42 0 rfl ?_
      refine zv_iconst (z := 1) dX11_find_43 ?_
      refine (zv_callVi [iv 1] (c_X11_refuses κ.2.1 hw p0 1 M0 hp0) zmd_X11_refuses zwI_X11_refuses zwS_X11_refuses zwM_RX11_175 zcd_11 hp0 rfl (by decide) rfl (Nat.le_of_ble_eq_true rfl) dX11_find_44 (fun M14 v13 _ => ?_))
      exact zv_ret (fun h => h) (zv_iret dX11_find_47)
    exact zv_sub (L' := [(0, rn w p0)]) [0] rfl (zv_exit (fun h => h))
  refine zv_rload_n dX11_find_25 0 rfl ?_
  refine zv_iconst (z := 0) dX11_find_26 ?_
  refine (zv_callVi [iv 0] (c_X11_refuses κ.2.1 hw p0 0 M15 hp0) zmd_X11_refuses zwI_X11_refuses zwS_X11_refuses zwM_RX11_175 zcd_11 hp0 rfl (by decide) rfl (Nat.le_of_ble_eq_true rfl) dX11_find_27 (fun M17 v16 _ => ?_))
  exact zv_ret (fun h => h) (zv_iret dX11_find_30)
def fb_X11_fits_15 (k : zK)  (l0 : Nat) (l1 : Int) (y2 : Int) (y3 : Int) (M0 : zM) : Option ((Int × Int × zM) ⊕ ((Int × zM) ⊕ (zM × Int))) :=
  zgd (0 ≤ (0 : Int) ∧ (0 : Int) < 4) (zbr y3 (M0 (zfr k l0 4) (Int.toNat 0)) (M0 (zfr k l0 4) (Int.toNat 0) ≤ y3) (some (.inr (.inl (y2, M0)))) (zbd (f_X11_doesFit k l0 y3 M0) (fun M4 v3 => zsp0 (zbr v3 0 (¬ v3 = 0) (some (.inl ())) (zbr l1 0 (¬ l1 = 0) (some (.inl ())) (some (.inr (.inr (.inr (M4, y3))))))) (fun r => some r) (zbr v3 0 (v3 = 0) (zlt (y2 + 0) (fun x5 => zlt (y3 + 1) (fun x6 => some (.inl (x5, x6, M4))))) (zlt (y2 + 1) (fun x7 => zlt (y3 + 1) (fun x8 => some (.inl (x7, x8, M4)))))))))
def f_X11_fits (k : zK)  (p0 : Nat) (p1 : Int) (M0 : zM) : Option (zM × Int) :=
  zb1 (f_X11_within k p1 (-1) 0 M0) (fun v1 => zbr v1 0 (¬ v1 = 0) (zsp2 (zw3 (fb_X11_fits_15 k p0 p1) zfu 0 0 M0) (fun r => some (r)) (fun x9 M10 => zbr p1 0 (¬ p1 = 0) (some (M10, x9)) (some (M10, (-1))))) (some (M0, (-1))))
theorem vl_X11_fits_15 {κ : zC} {w : zW} (hw : zWk w)  (l0 : Nat) (l1 : Int) (g0 : ztag w.1 l0 = 12)  (E : ((Int × zM) ⊕ (zM × Int)) → Prop) (hX : ∀ (u2 : Int) (M1 : zM), E (.inl (u2, M1)) → zB cX11_fits RX11 5 (some .int) κ w (0, 0, 2) 62 [(1, iv l1), (2, iv u2)] [] M1) (hR : ∀ r, E (.inr r) → zRt κ w (0, 0, 2) 1 r) (y2 : Int) (y3 : Int) (M0 : zM) :
    zV cX11_fits RX11 5 (some .int) κ w (0, 0, 2) 15 [(2, iv y2), (3, iv y3), (0, rn w l0), (1, iv l1)] [] M0 (zw3 (fb_X11_fits_15 w.1 l0 l1) zfu y2 y3 M0) E := by
  have hT := hw.1
  refine zv_loop3 (fun y2 y3 M0 => [(2, iv y2), (3, iv y3), (0, rn w l0), (1, iv l1)]) (fun y2 y3 M0 => M0) (fun y2 y3 M0 => ?_) y2 y3 M0
  unfold fb_X11_fits_15
  refine zv_iload_n dX11_fits_15 1 rfl ?_
  refine zv_rload_n dX11_fits_16 2 rfl ?_
  refine zg_RX11_22 dX11_fits_17 g0 ?_
  refine zv_iconst (z := 0) dX11_fits_20 ?_
  refine zv_iald dX11_fits_21 (zta_11_4 hT g0) (ztl_11_4 hT g0) (by decide) ?_
  refine zv_icmp_ge (tgt := 62) dX11_fits_22 (by decide) ?_ ?_
  · exact zv_sub (L' := [(1, iv l1), (2, iv y2)]) [3, 0] rfl (zv_exit (fun h => hX _ _ h))
  refine zv_rload_n dX11_fits_25 2 rfl ?_
  refine zv_iload_n dX11_fits_26 1 rfl ?_
  refine (zv_callVi [iv y3] (c_X11_doesFit κ.2.1 hw l0 y3 M0 g0) zmd_X11_doesFit zwI_X11_doesFit zwS_X11_doesFit zwM_RX11_502 zcd_11 g0 rfl (by decide) rfl (Nat.le_of_ble_eq_true rfl) dX11_fits_27 (fun M4 v3 _ => ?_))
  refine zv_istore_p (L' := [(4, iv v3), (2, iv y2), (3, iv y3), (0, rn w l0), (1, iv l1)]) dX11_fits_30 (by decide) rfl ?_
  refine zv_iload dX11_fits_32 0 rfl ?_
  refine zv_joinS0 (fun r => r) 43 ([(4, iv v3), (2, iv y2), (3, iv y3), (0, rn w l0), (1, iv l1)]) ([]) (M4) ?_ (?_)
  · refine zv_if_ne (tgt := 43) dX11_fits_34 (by decide) ?_ ?_
    · exact zv_sub (L' := [(4, iv v3), (2, iv y2), (3, iv y3), (0, rn w l0), (1, iv l1)]) [0, 1, 2, 3, 4] rfl (zv_exit (fun h => h))
    refine zv_iload_n dX11_fits_37 4 rfl ?_
    refine zv_if_ne (tgt := 43) dX11_fits_38 (by decide) ?_ ?_
    · exact zv_sub (L' := [(4, iv v3), (2, iv y2), (3, iv y3), (0, rn w l0), (1, iv l1)]) [0, 1, 2, 3, 4] rfl (zv_exit (fun h => h))
    refine zv_iload_n dX11_fits_41 2 rfl ?_
    exact zv_ret (fun h => hR _ h) (zv_iret dX11_fits_42)
  refine zv_iload_n dX11_fits_43 1 rfl ?_
  refine zv_iload dX11_fits_44 0 rfl ?_
  refine zv_if_eq (tgt := 53) dX11_fits_46 (by decide) ?_ ?_
  · refine zv_iconst (z := 0) dX11_fits_53 ?_
    refine zv_iadd dX11_fits_54 ?_
    refine zv_istore_n (i := 2) (by rfl) dX11_fits_55 (fun x5 => [(2, iv x5), (4, iv v3), (3, iv y3), (0, rn w l0), (1, iv l1)]) (by decide) (fun _ => rfl) (fun x5 => ?_)
    refine zv_iinc dX11_fits_56 2 rfl (fun x6 => [(3, iv x6), (2, iv x5), (4, iv v3), (0, rn w l0), (1, iv l1)]) (by decide) (fun _ => rfl) (fun x6 => ?_)
    refine zv_goto (tgt := 15) dX11_fits_59 (by decide) ?_
    exact zv_sub (L' := [(2, iv x5), (3, iv x6), (0, rn w l0), (1, iv l1)]) [1, 0, 3, 4] rfl (zv_exit (fun h => h))
  refine zv_iconst (z := 1) dX11_fits_49 ?_
  refine zv_goto (tgt := 54) dX11_fits_50 (by decide) ?_
  refine zv_iadd dX11_fits_54 ?_
  refine zv_istore_n (i := 2) (by rfl) dX11_fits_55 (fun x7 => [(2, iv x7), (4, iv v3), (3, iv y3), (0, rn w l0), (1, iv l1)]) (by decide) (fun _ => rfl) (fun x7 => ?_)
  refine zv_iinc dX11_fits_56 2 rfl (fun x8 => [(3, iv x8), (2, iv x7), (4, iv v3), (0, rn w l0), (1, iv l1)]) (by decide) (fun _ => rfl) (fun x8 => ?_)
  refine zv_goto (tgt := 15) dX11_fits_59 (by decide) ?_
  exact zv_sub (L' := [(2, iv x7), (3, iv x8), (0, rn w l0), (1, iv l1)]) [1, 0, 3, 4] rfl (zv_exit (fun h => h))
theorem c_X11_fits (l : Launch) {w : zW} (hw : zWk w)  (p0 : Nat) (p1 : Int) (M0 : zM) (hp0 : ztag w.1 p0 = 12) : zCn l yX11_fits cX11_fits 5 (some .int) (2) 1 w [rn w p0, iv p1] M0 (f_X11_fits w.1 p0 p1 M0) := by
  have hT := hw.1
  refine zCn_of (own := RX11) (by decide) rfl hw (Nat.le_of_ble_eq_true rfl) [(0, rn w p0), (1, iv p1)] rfl ?_
  intro κ hl
  subst hl
  unfold f_X11_fits
  refine zv_iload_n dX11_fits_0 1 rfl ?_
  refine zv_iconst (z := (-1)) dX11_fits_1 ?_
  refine zv_iconst (z := 0) dX11_fits_2 ?_
  refine zv_pc (zv_callSi [iv p1, iv (-1), iv 0] (c_X11_within κ.2.1 hw p1 (-1) 0 M0 ) zmd_X11_within zwT_X11_within zwM_RX11_183 rfl (by decide) rfl (Nat.le_of_ble_eq_true rfl) dX11_fits_3 (fun mh2 v1 h2 => ?_))
  obtain rfl := zpuE h2
  refine zv_if_ne (tgt := 11) dX11_fits_6 (by decide) ?_ ?_
  · refine zv_iconst (z := 0) dX11_fits_11 ?_
    refine zv_istore_np (L' := [(2, iv 0), (0, rn w p0), (1, iv p1)]) (by rfl) dX11_fits_12 (by decide) rfl ?_
    refine zv_iconst (z := 0) dX11_fits_13 ?_
    refine zv_istore_np (L' := [(3, iv 0), (2, iv 0), (0, rn w p0), (1, iv p1)]) (by rfl) dX11_fits_14 (by decide) rfl ?_
    refine zv_joinS2 (fun r => r) 62 (fun x9 M10 => [(1, iv p1), (2, iv x9)]) (fun x9 M10 => []) (fun x9 M10 => M10) (zv_sub (L' := [(2, iv 0), (3, iv 0), (0, rn w p0), (1, iv p1)]) [1, 0, 2, 3] rfl (vl_X11_fits_15 hw p0 p1 hp0 _ (fun _ _ h => h) (fun _ h => ((fun h => h)) h) 0 0 M0)) (fun x9 M10 => ?_)
    refine zv_iload_n dX11_fits_62 0 rfl ?_
    refine zv_if_ne (tgt := 70) dX11_fits_63 (by decide) ?_ ?_
    · refine zv_iload_n dX11_fits_70 1 rfl ?_
      exact zv_ret (fun h => h) (zv_iret dX11_fits_71)
    refine zv_iconst (z := (-1)) dX11_fits_66 ?_
    refine zv_goto (tgt := 71) dX11_fits_67 (by decide) ?_
    exact zv_ret (fun h => h) (zv_iret dX11_fits_71)
  refine zv_iconst (z := (-1)) dX11_fits_9 ?_
  exact zv_ret (fun h => h) (zv_iret dX11_fits_10)
def f_X11_isBank (k : zK)  (p0 : Nat) (p1 : Int) (p2 : Int) (p3 : Int) (M0 : zM) : Option Int :=
  zb1 (f_X11_beside k p1 p2 M0) (fun v1 => zbr v1 0 (v1 < 0) (some 0) (zgd (0 ≤ v1 ∧ v1 < 256) (zbr (M0 (zfr k p0 55) v1.toNat) 0 (M0 (zfr k p0 55) v1.toNat = 0) (some 0) (zgd (0 ≤ v1 ∧ v1 < 256) (zbr (M0 (zfr k p0 53) v1.toNat) p3 (p3 ≤ M0 (zfr k p0 53) v1.toNat) (some 0) (some 1))))))
theorem c_X11_isBank (l : Launch) {w : zW} (hw : zWk w)  (p0 : Nat) (p1 : Int) (p2 : Int) (p3 : Int) (M0 : zM) (hp0 : ztag w.1 p0 = 12) : zCn l yX11_isBank cX11_isBank 5 (some .boolean) (1) 1 w [rn w p0, iv p1, iv p2, iv p3] M0 ((f_X11_isBank w.1 p0 p1 p2 p3 M0).map fun v => (M0, v)) := by
  have hT := hw.1
  refine zCn_ofP (own := RX11) (by decide) rfl hw (Nat.le_of_ble_eq_true rfl) [(0, rn w p0), (1, iv p1), (2, iv p2), (3, iv p3)] rfl ?_
  intro κ hl
  subst hl
  unfold f_X11_isBank
  refine zv_iload_n dX11_isBank_0 1 rfl ?_
  refine zv_iload_n dX11_isBank_1 2 rfl ?_
  refine zv_pc (zv_callSi [iv p1, iv p2] (c_X11_beside κ.2.1 hw p1 p2 M0 ) zmd_X11_beside zwT_X11_beside zwM_RX11_353 rfl (by decide) rfl (Nat.le_of_ble_eq_true rfl) dX11_isBank_2 (fun mh2 v1 h2 => ?_))
  obtain rfl := zpuE h2
  refine zv_istore_p (L' := [(4, iv v1), (0, rn w p0), (1, iv p1), (2, iv p2), (3, iv p3)]) dX11_isBank_5 (by decide) rfl ?_
  refine zv_iload dX11_isBank_7 0 rfl ?_
  refine zv_if_lt (tgt := 37) dX11_isBank_9 (by decide) ?_ ?_
  · refine zv_iconst (z := 0) dX11_isBank_37 ?_
    exact zv_ret (fun h => h) (zv_zrB (by decide) dX11_isBank_38)
  refine zv_rload_n dX11_isBank_12 1 rfl ?_
  refine zg_RX11_139 dX11_isBank_13 hp0 ?_
  refine zv_iload dX11_isBank_16 0 rfl ?_
  refine zv_zald dX11_isBank_18 (zta_11_55 hT hp0) (ztl_11_55 hT hp0) (by decide) ?_
  refine zv_if_eq (tgt := 37) dX11_isBank_19 (by decide) ?_ ?_
  · refine zv_iconst (z := 0) dX11_isBank_37 ?_
    exact zv_ret (fun h => h) (zv_zrB (by decide) dX11_isBank_38)
  refine zv_rload_n dX11_isBank_22 1 rfl ?_
  refine zg_RX11_133 dX11_isBank_23 hp0 ?_
  refine zv_iload dX11_isBank_26 0 rfl ?_
  refine zv_iald dX11_isBank_28 (zta_11_53 hT hp0) (ztl_11_53 hT hp0) (by decide) ?_
  refine zv_iload_n dX11_isBank_29 4 rfl ?_
  refine zv_icmp_ge (tgt := 37) dX11_isBank_30 (by decide) ?_ ?_
  · refine zv_iconst (z := 0) dX11_isBank_37 ?_
    exact zv_ret (fun h => h) (zv_zrB (by decide) dX11_isBank_38)
  refine zv_iconst (z := 1) dX11_isBank_33 ?_
  refine zv_goto (tgt := 38) dX11_isBank_34 (by decide) ?_
  exact zv_ret (fun h => h) (zv_zrB (by decide) dX11_isBank_38)
def fb_X11_ford_35 (k : zK)  (l0 : Nat) (l2 : Int) (l3 : Int) (M0 : zM) (y4 : Int) (y5 : Int) : Option ((Int × Int) ⊕ ((Int) ⊕ (zM × Int))) :=
  zbr y5 256 (256 ≤ y5) (some (.inr (.inl y4))) (zb1 (f_X11_isBank k l0 y5 0 l2 M0) (fun v6 => zsp2 (zbr v6 0 (v6 = 0) (some (.inl (y4, y5))) (zb1 (f_X11_isBank k l0 y5 1 l2 M0) (fun v8 => zbr v8 0 (¬ v8 = 0) (zgd (0 ≤ y5 ∧ y5 < 256) (zbr (M0 (zfr k l0 55) y5.toNat) 0 (M0 (zfr k l0 55) y5.toNat = 0) (zlt (y5 + 1) (fun x10 => some (.inr (.inl (y4, x10))))) (zgd (0 ≤ y5 ∧ y5 < 256) (zbr (M0 (zfr k l0 53) y5.toNat) l2 (M0 (zfr k l0 53) y5.toNat < l2) (zlt (y5 + 1) (fun x11 => some (.inr (.inl (y4, x11))))) (zbr 1 0 (¬ (1 : Int) = 0) (zbr y4 l3 (¬ y4 = l3) (zlt (y4 + 1) (fun x12 => zlt (y5 + 1) (fun x13 => some (.inr (.inl (x12, x13)))))) (some (.inr (.inr (.inr (M0, y5)))))) (zlt (y5 + 1) (fun x14 => some (.inr (.inl (y4, x14)))))))))) (some (.inl (y4, y5)))))) (fun r => some r) (fun x15 x16 => zb1 (f_X11_isBank k l0 x16 2 l2 M0) (fun v17 => zsp2 (zbr v17 0 (v17 = 0) (some (.inl (x15, x16))) (zb1 (f_X11_isBank k l0 x16 3 l2 M0) (fun v19 => zbr v19 0 (v19 = 0) (some (.inl (x15, x16))) (zgd (0 ≤ x16 ∧ x16 < 256) (zbr (M0 (zfr k l0 55) x16.toNat) 0 (M0 (zfr k l0 55) x16.toNat = 0) (zlt (x16 + 1) (fun x21 => some (.inr (.inl (x15, x21))))) (zgd (0 ≤ x16 ∧ x16 < 256) (zbr (M0 (zfr k l0 53) x16.toNat) l2 (M0 (zfr k l0 53) x16.toNat < l2) (zlt (x16 + 1) (fun x22 => some (.inr (.inl (x15, x22))))) (zbr 1 0 (¬ (1 : Int) = 0) (zbr x15 l3 (¬ x15 = l3) (zlt (x15 + 1) (fun x23 => zlt (x16 + 1) (fun x24 => some (.inr (.inl (x23, x24)))))) (some (.inr (.inr (.inr (M0, x16)))))) (zlt (x16 + 1) (fun x25 => some (.inr (.inl (x15, x25))))))))))))) (fun r => some r) (fun x26 x27 => zgd (0 ≤ x27 ∧ x27 < 256) (zbr (M0 (zfr k l0 55) x27.toNat) 0 (M0 (zfr k l0 55) x27.toNat = 0) (zlt (x27 + 1) (fun x28 => some (.inl (x26, x28)))) (zgd (0 ≤ x27 ∧ x27 < 256) (zbr (M0 (zfr k l0 53) x27.toNat) l2 (M0 (zfr k l0 53) x27.toNat < l2) (zlt (x27 + 1) (fun x29 => some (.inl (x26, x29)))) (zbr 0 0 (¬ (0 : Int) = 0) (zbr x26 l3 (¬ x26 = l3) (zlt (x26 + 1) (fun x30 => zlt (x27 + 1) (fun x31 => some (.inl (x30, x31))))) (some (.inr (.inr (M0, x27))))) (zlt (x27 + 1) (fun x32 => some (.inl (x26, x32)))))))))))))
def f_X11_ford (k : zK)  (p0 : Nat) (p1 : Int) (p2 : Int) (p3 : Int) (M0 : zM) : Option (zM × Int) :=
  zb1 (f_X11_isAge k p1 M0) (fun v1 => zbr v1 0 (v1 = 0) (some (M0, (-1))) (zb1 (f_X11_within k p2 2 99 M0) (fun v3 => zbr v3 0 (v3 = 0) (some (M0, (-1))) (zbr p3 (-1) ((-1) ≤ p3) (zb1 (f_X11_finds k p0 p1 M0) (fun M5 => zsp1 (zw2 (fb_X11_ford_35 k p0 p2 p3 M5) zfu 0 0) (fun r => some (r)) (fun x33 => zbr p3 (-1) (¬ p3 = (-1)) (some (M5, (-1))) (some (M5, x33))))) (some (M0, (-1)))))))
set_option maxRecDepth 20000 in
theorem vl_X11_ford_35 {κ : zC} {w : zW} (hw : zWk w)  (l0 : Nat) (l2 : Int) (l3 : Int) (g0 : ztag w.1 l0 = 12) (M0 : zM) (E : ((Int) ⊕ (zM × Int)) → Prop) (hX : ∀ (u4 : Int), E (.inl u4) → zB cX11_ford RX11 7 (some .int) κ w (0, 0, 4) 141 [(3, iv l3), (4, iv u4)] [] M0) (hR : ∀ r, E (.inr r) → zRt κ w (0, 0, 4) 1 r) (y4 : Int) (y5 : Int) :
    zV cX11_ford RX11 7 (some .int) κ w (0, 0, 4) 35 [(4, iv y4), (5, iv y5), (0, rn w l0), (2, iv l2), (3, iv l3)] [] M0 (zw2 (fb_X11_ford_35 w.1 l0 l2 l3 M0) zfu y4 y5) E := by
  have hT := hw.1
  refine zv_loop2 (fun y4 y5 => [(4, iv y4), (5, iv y5), (0, rn w l0), (2, iv l2), (3, iv l3)]) (fun y4 y5 => M0) (fun y4 y5 => ?_) y4 y5
  unfold fb_X11_ford_35
  refine zv_iload dX11_ford_35 1 rfl ?_
  refine zv_sipush (z := 256) dX11_ford_37 (by decide) ?_
  refine zv_icmp_ge (tgt := 141) dX11_ford_40 (by decide) ?_ ?_
  · exact zv_sub (L' := [(3, iv l3), (4, iv y4)]) [4, 0] rfl (zv_exit (fun h => hX _ h))
  refine zv_rload_n dX11_ford_43 2 rfl ?_
  refine zv_iload dX11_ford_44 1 rfl ?_
  refine zv_iconst (z := 0) dX11_ford_46 ?_
  refine zv_iload_n dX11_ford_47 3 rfl ?_
  refine zv_pc (zv_callVi [iv y5, iv 0, iv l2] (c_X11_isBank κ.2.1 hw l0 y5 0 l2 M0 g0) zmd_X11_isBank zwI_X11_isBank zwS_X11_isBank zwM_RX11_496 zcd_11 g0 rfl (by decide) rfl (Nat.le_of_ble_eq_true rfl) dX11_ford_48 (fun mh7 v6 h7 => ?_))
  obtain rfl := zpuE h7
  refine zv_joinS2 (fun r => r) 65 (fun x15 x16 => [(4, iv x15), (5, iv x16), (0, rn w l0), (2, iv l2), (3, iv l3)]) (fun x15 x16 => []) (fun x15 x16 => M0) ?_ (fun x15 x16 => ?_)
  · refine zv_if_eq (tgt := 65) dX11_ford_51 (by decide) ?_ ?_
    · exact zv_sub (L' := [(4, iv y4), (5, iv y5), (0, rn w l0), (2, iv l2), (3, iv l3)]) [0, 1, 2, 3, 4] rfl (zv_exit (fun h => h))
    refine zv_rload_n dX11_ford_54 2 rfl ?_
    refine zv_iload dX11_ford_55 1 rfl ?_
    refine zv_iconst (z := 1) dX11_ford_57 ?_
    refine zv_iload_n dX11_ford_58 3 rfl ?_
    refine zv_pc (zv_callVi [iv y5, iv 1, iv l2] (c_X11_isBank κ.2.1 hw l0 y5 1 l2 M0 g0) zmd_X11_isBank zwI_X11_isBank zwS_X11_isBank zwM_RX11_496 zcd_11 g0 rfl (by decide) rfl (Nat.le_of_ble_eq_true rfl) dX11_ford_59 (fun mh9 v8 h9 => ?_))
    obtain rfl := zpuE h9
    refine zv_if_ne (tgt := 87) dX11_ford_62 (by decide) ?_ ?_
    · refine zv_iconst (z := 1) dX11_ford_87 ?_
      refine zv_goto (tgt := 92) dX11_ford_88 (by decide) ?_
      refine zv_istore_p (L' := [(6, iv 1), (4, iv y4), (5, iv y5), (0, rn w l0), (2, iv l2), (3, iv l3)]) dX11_ford_92 (by decide) rfl ?_
      refine zv_rload_n dX11_ford_94 3 rfl ?_
      refine zg_RX11_139 dX11_ford_95 g0 ?_
      refine zv_iload dX11_ford_98 2 rfl ?_
      refine zv_zald dX11_ford_100 (zta_11_55 hT g0) (ztl_11_55 hT g0) (by decide) ?_
      refine zv_if_eq (tgt := 135) dX11_ford_101 (by decide) ?_ ?_
      · refine zv_iinc dX11_ford_135 2 rfl (fun x10 => [(5, iv x10), (6, iv 1), (4, iv y4), (0, rn w l0), (2, iv l2), (3, iv l3)]) (by decide) (fun _ => rfl) (fun x10 => ?_)
        refine zv_goto (tgt := 35) dX11_ford_138 (by decide) ?_
        exact zv_sub (L' := [(4, iv y4), (5, iv x10), (0, rn w l0), (2, iv l2), (3, iv l3)]) [2, 0, 3, 4, 5] rfl (zv_exit (fun h => h))
      refine zv_rload_n dX11_ford_104 3 rfl ?_
      refine zg_RX11_133 dX11_ford_105 g0 ?_
      refine zv_iload dX11_ford_108 2 rfl ?_
      refine zv_iald dX11_ford_110 (zta_11_53 hT g0) (ztl_11_53 hT g0) (by decide) ?_
      refine zv_iload_n dX11_ford_111 4 rfl ?_
      refine zv_icmp_lt (tgt := 135) dX11_ford_112 (by decide) ?_ ?_
      · refine zv_iinc dX11_ford_135 2 rfl (fun x11 => [(5, iv x11), (6, iv 1), (4, iv y4), (0, rn w l0), (2, iv l2), (3, iv l3)]) (by decide) (fun _ => rfl) (fun x11 => ?_)
        refine zv_goto (tgt := 35) dX11_ford_138 (by decide) ?_
        exact zv_sub (L' := [(4, iv y4), (5, iv x11), (0, rn w l0), (2, iv l2), (3, iv l3)]) [2, 0, 3, 4, 5] rfl (zv_exit (fun h => h))
      refine zv_iload dX11_ford_115 0 rfl ?_
      refine zv_if_ne (tgt := 123) dX11_ford_117 (by decide) ?_ ?_
      · refine zv_iload dX11_ford_123 1 rfl ?_
        refine zv_iload_n dX11_ford_125 5 rfl ?_
        refine zv_icmp_ne (tgt := 132) dX11_ford_126 (by decide) ?_ ?_
        · refine zv_iinc dX11_ford_132 1 rfl (fun x12 => [(4, iv x12), (6, iv 1), (5, iv y5), (0, rn w l0), (2, iv l2), (3, iv l3)]) (by decide) (fun _ => rfl) (fun x12 => ?_)
          refine zv_iinc dX11_ford_135 2 rfl (fun x13 => [(5, iv x13), (4, iv x12), (6, iv 1), (0, rn w l0), (2, iv l2), (3, iv l3)]) (by decide) (fun _ => rfl) (fun x13 => ?_)
          refine zv_goto (tgt := 35) dX11_ford_138 (by decide) ?_
          exact zv_sub (L' := [(4, iv x12), (5, iv x13), (0, rn w l0), (2, iv l2), (3, iv l3)]) [1, 0, 3, 4, 5] rfl (zv_exit (fun h => h))
        refine zv_iload dX11_ford_129 2 rfl ?_
        exact zv_ret (fun h => hR _ h) (zv_iret dX11_ford_131)
      refine zv_goto (tgt := 135) dX11_ford_120 (by decide) ?_
      refine zv_iinc dX11_ford_135 2 rfl (fun x14 => [(5, iv x14), (6, iv 1), (4, iv y4), (0, rn w l0), (2, iv l2), (3, iv l3)]) (by decide) (fun _ => rfl) (fun x14 => ?_)
      refine zv_goto (tgt := 35) dX11_ford_138 (by decide) ?_
      exact zv_sub (L' := [(4, iv y4), (5, iv x14), (0, rn w l0), (2, iv l2), (3, iv l3)]) [2, 0, 3, 4, 5] rfl (zv_exit (fun h => h))
    exact zv_sub (L' := [(4, iv y4), (5, iv y5), (0, rn w l0), (2, iv l2), (3, iv l3)]) [0, 1, 2, 3, 4] rfl (zv_exit (fun h => h))
  refine zv_rload_n dX11_ford_65 2 rfl ?_
  refine zv_iload dX11_ford_66 1 rfl ?_
  refine zv_iconst (z := 2) dX11_ford_68 ?_
  refine zv_iload_n dX11_ford_69 3 rfl ?_
  refine zv_pc (zv_callVi [iv x16, iv 2, iv l2] (c_X11_isBank κ.2.1 hw l0 x16 2 l2 M0 g0) zmd_X11_isBank zwI_X11_isBank zwS_X11_isBank zwM_RX11_496 zcd_11 g0 rfl (by decide) rfl (Nat.le_of_ble_eq_true rfl) dX11_ford_70 (fun mh18 v17 h18 => ?_))
  obtain rfl := zpuE h18
  refine zv_joinS2 (fun r => r) 91 (fun x26 x27 => [(4, iv x26), (5, iv x27), (0, rn w l0), (2, iv l2), (3, iv l3)]) (fun x26 x27 => []) (fun x26 x27 => M0) ?_ (fun x26 x27 => ?_)
  · refine zv_if_eq (tgt := 91) dX11_ford_73 (by decide) ?_ ?_
    · exact zv_sub (L' := [(4, iv x15), (5, iv x16), (0, rn w l0), (2, iv l2), (3, iv l3)]) [0, 1, 2, 3, 4] rfl (zv_exit (fun h => h))
    refine zv_rload_n dX11_ford_76 2 rfl ?_
    refine zv_iload dX11_ford_77 1 rfl ?_
    refine zv_iconst (z := 3) dX11_ford_79 ?_
    refine zv_iload_n dX11_ford_80 3 rfl ?_
    refine zv_pc (zv_callVi [iv x16, iv 3, iv l2] (c_X11_isBank κ.2.1 hw l0 x16 3 l2 M0 g0) zmd_X11_isBank zwI_X11_isBank zwS_X11_isBank zwM_RX11_496 zcd_11 g0 rfl (by decide) rfl (Nat.le_of_ble_eq_true rfl) dX11_ford_81 (fun mh20 v19 h20 => ?_))
    obtain rfl := zpuE h20
    refine zv_if_eq (tgt := 91) dX11_ford_84 (by decide) ?_ ?_
    · exact zv_sub (L' := [(4, iv x15), (5, iv x16), (0, rn w l0), (2, iv l2), (3, iv l3)]) [0, 1, 2, 3, 4] rfl (zv_exit (fun h => h))
    refine zv_iconst (z := 1) dX11_ford_87 ?_
    refine zv_goto (tgt := 92) dX11_ford_88 (by decide) ?_
    refine zv_istore_p (L' := [(6, iv 1), (4, iv x15), (5, iv x16), (0, rn w l0), (2, iv l2), (3, iv l3)]) dX11_ford_92 (by decide) rfl ?_
    refine zv_rload_n dX11_ford_94 3 rfl ?_
    refine zg_RX11_139 dX11_ford_95 g0 ?_
    refine zv_iload dX11_ford_98 2 rfl ?_
    refine zv_zald dX11_ford_100 (zta_11_55 hT g0) (ztl_11_55 hT g0) (by decide) ?_
    refine zv_if_eq (tgt := 135) dX11_ford_101 (by decide) ?_ ?_
    · refine zv_iinc dX11_ford_135 2 rfl (fun x21 => [(5, iv x21), (6, iv 1), (4, iv x15), (0, rn w l0), (2, iv l2), (3, iv l3)]) (by decide) (fun _ => rfl) (fun x21 => ?_)
      refine zv_goto (tgt := 35) dX11_ford_138 (by decide) ?_
      exact zv_sub (L' := [(4, iv x15), (5, iv x21), (0, rn w l0), (2, iv l2), (3, iv l3)]) [2, 0, 3, 4, 5] rfl (zv_exit (fun h => h))
    refine zv_rload_n dX11_ford_104 3 rfl ?_
    refine zg_RX11_133 dX11_ford_105 g0 ?_
    refine zv_iload dX11_ford_108 2 rfl ?_
    refine zv_iald dX11_ford_110 (zta_11_53 hT g0) (ztl_11_53 hT g0) (by decide) ?_
    refine zv_iload_n dX11_ford_111 4 rfl ?_
    refine zv_icmp_lt (tgt := 135) dX11_ford_112 (by decide) ?_ ?_
    · refine zv_iinc dX11_ford_135 2 rfl (fun x22 => [(5, iv x22), (6, iv 1), (4, iv x15), (0, rn w l0), (2, iv l2), (3, iv l3)]) (by decide) (fun _ => rfl) (fun x22 => ?_)
      refine zv_goto (tgt := 35) dX11_ford_138 (by decide) ?_
      exact zv_sub (L' := [(4, iv x15), (5, iv x22), (0, rn w l0), (2, iv l2), (3, iv l3)]) [2, 0, 3, 4, 5] rfl (zv_exit (fun h => h))
    refine zv_iload dX11_ford_115 0 rfl ?_
    refine zv_if_ne (tgt := 123) dX11_ford_117 (by decide) ?_ ?_
    · refine zv_iload dX11_ford_123 1 rfl ?_
      refine zv_iload_n dX11_ford_125 5 rfl ?_
      refine zv_icmp_ne (tgt := 132) dX11_ford_126 (by decide) ?_ ?_
      · refine zv_iinc dX11_ford_132 1 rfl (fun x23 => [(4, iv x23), (6, iv 1), (5, iv x16), (0, rn w l0), (2, iv l2), (3, iv l3)]) (by decide) (fun _ => rfl) (fun x23 => ?_)
        refine zv_iinc dX11_ford_135 2 rfl (fun x24 => [(5, iv x24), (4, iv x23), (6, iv 1), (0, rn w l0), (2, iv l2), (3, iv l3)]) (by decide) (fun _ => rfl) (fun x24 => ?_)
        refine zv_goto (tgt := 35) dX11_ford_138 (by decide) ?_
        exact zv_sub (L' := [(4, iv x23), (5, iv x24), (0, rn w l0), (2, iv l2), (3, iv l3)]) [1, 0, 3, 4, 5] rfl (zv_exit (fun h => h))
      refine zv_iload dX11_ford_129 2 rfl ?_
      exact zv_ret (fun h => hR _ h) (zv_iret dX11_ford_131)
    refine zv_goto (tgt := 135) dX11_ford_120 (by decide) ?_
    refine zv_iinc dX11_ford_135 2 rfl (fun x25 => [(5, iv x25), (6, iv 1), (4, iv x15), (0, rn w l0), (2, iv l2), (3, iv l3)]) (by decide) (fun _ => rfl) (fun x25 => ?_)
    refine zv_goto (tgt := 35) dX11_ford_138 (by decide) ?_
    exact zv_sub (L' := [(4, iv x15), (5, iv x25), (0, rn w l0), (2, iv l2), (3, iv l3)]) [2, 0, 3, 4, 5] rfl (zv_exit (fun h => h))
  refine zv_iconst (z := 0) dX11_ford_91 ?_
  refine zv_istore_p (L' := [(6, iv 0), (4, iv x26), (5, iv x27), (0, rn w l0), (2, iv l2), (3, iv l3)]) dX11_ford_92 (by decide) rfl ?_
  refine zv_rload_n dX11_ford_94 3 rfl ?_
  refine zg_RX11_139 dX11_ford_95 g0 ?_
  refine zv_iload dX11_ford_98 2 rfl ?_
  refine zv_zald dX11_ford_100 (zta_11_55 hT g0) (ztl_11_55 hT g0) (by decide) ?_
  refine zv_if_eq (tgt := 135) dX11_ford_101 (by decide) ?_ ?_
  · refine zv_iinc dX11_ford_135 2 rfl (fun x28 => [(5, iv x28), (6, iv 0), (4, iv x26), (0, rn w l0), (2, iv l2), (3, iv l3)]) (by decide) (fun _ => rfl) (fun x28 => ?_)
    refine zv_goto (tgt := 35) dX11_ford_138 (by decide) ?_
    exact zv_sub (L' := [(4, iv x26), (5, iv x28), (0, rn w l0), (2, iv l2), (3, iv l3)]) [2, 0, 3, 4, 5] rfl (zv_exit (fun h => h))
  refine zv_rload_n dX11_ford_104 3 rfl ?_
  refine zg_RX11_133 dX11_ford_105 g0 ?_
  refine zv_iload dX11_ford_108 2 rfl ?_
  refine zv_iald dX11_ford_110 (zta_11_53 hT g0) (ztl_11_53 hT g0) (by decide) ?_
  refine zv_iload_n dX11_ford_111 4 rfl ?_
  refine zv_icmp_lt (tgt := 135) dX11_ford_112 (by decide) ?_ ?_
  · refine zv_iinc dX11_ford_135 2 rfl (fun x29 => [(5, iv x29), (6, iv 0), (4, iv x26), (0, rn w l0), (2, iv l2), (3, iv l3)]) (by decide) (fun _ => rfl) (fun x29 => ?_)
    refine zv_goto (tgt := 35) dX11_ford_138 (by decide) ?_
    exact zv_sub (L' := [(4, iv x26), (5, iv x29), (0, rn w l0), (2, iv l2), (3, iv l3)]) [2, 0, 3, 4, 5] rfl (zv_exit (fun h => h))
  refine zv_iload dX11_ford_115 0 rfl ?_
  refine zv_if_ne (tgt := 123) dX11_ford_117 (by decide) ?_ ?_
  · refine zv_iload dX11_ford_123 1 rfl ?_
    refine zv_iload_n dX11_ford_125 5 rfl ?_
    refine zv_icmp_ne (tgt := 132) dX11_ford_126 (by decide) ?_ ?_
    · refine zv_iinc dX11_ford_132 1 rfl (fun x30 => [(4, iv x30), (6, iv 0), (5, iv x27), (0, rn w l0), (2, iv l2), (3, iv l3)]) (by decide) (fun _ => rfl) (fun x30 => ?_)
      refine zv_iinc dX11_ford_135 2 rfl (fun x31 => [(5, iv x31), (4, iv x30), (6, iv 0), (0, rn w l0), (2, iv l2), (3, iv l3)]) (by decide) (fun _ => rfl) (fun x31 => ?_)
      refine zv_goto (tgt := 35) dX11_ford_138 (by decide) ?_
      exact zv_sub (L' := [(4, iv x30), (5, iv x31), (0, rn w l0), (2, iv l2), (3, iv l3)]) [1, 0, 3, 4, 5] rfl (zv_exit (fun h => h))
    refine zv_iload dX11_ford_129 2 rfl ?_
    exact zv_ret (fun h => hR _ h) (zv_iret dX11_ford_131)
  refine zv_goto (tgt := 135) dX11_ford_120 (by decide) ?_
  refine zv_iinc dX11_ford_135 2 rfl (fun x32 => [(5, iv x32), (6, iv 0), (4, iv x26), (0, rn w l0), (2, iv l2), (3, iv l3)]) (by decide) (fun _ => rfl) (fun x32 => ?_)
  refine zv_goto (tgt := 35) dX11_ford_138 (by decide) ?_
  exact zv_sub (L' := [(4, iv x26), (5, iv x32), (0, rn w l0), (2, iv l2), (3, iv l3)]) [2, 0, 3, 4, 5] rfl (zv_exit (fun h => h))
theorem c_X11_ford (l : Launch) {w : zW} (hw : zWk w)  (p0 : Nat) (p1 : Int) (p2 : Int) (p3 : Int) (M0 : zM) (hp0 : ztag w.1 p0 = 12) : zCn l yX11_ford cX11_ford 7 (some .int) (4) 1 w [rn w p0, iv p1, iv p2, iv p3] M0 (f_X11_ford w.1 p0 p1 p2 p3 M0) := by
  have hT := hw.1
  refine zCn_of (own := RX11) (by decide) rfl hw (Nat.le_of_ble_eq_true rfl) [(0, rn w p0), (1, iv p1), (2, iv p2), (3, iv p3)] rfl ?_
  intro κ hl
  subst hl
  unfold f_X11_ford
  refine zv_iload_n dX11_ford_0 1 rfl ?_
  refine zv_pc (zv_callSi [iv p1] (c_X11_isAge κ.2.1 hw p1 M0 ) zmd_X11_isAge zwT_X11_isAge zwM_RX11_335 rfl (by decide) rfl (Nat.le_of_ble_eq_true rfl) dX11_ford_1 (fun mh2 v1 h2 => ?_))
  obtain rfl := zpuE h2
  refine zv_if_eq (tgt := 22) dX11_ford_4 (by decide) ?_ ?_
  · refine zv_iconst (z := (-1)) dX11_ford_22 ?_
    exact zv_ret (fun h => h) (zv_iret dX11_ford_23)
  refine zv_iload_n dX11_ford_7 2 rfl ?_
  refine zv_iconst (z := 2) dX11_ford_8 ?_
  refine zv_bipush (z := 99) dX11_ford_9 (by decide) ?_
  refine zv_pc (zv_callSi [iv p2, iv 2, iv 99] (c_X11_within κ.2.1 hw p2 2 99 M0 ) zmd_X11_within zwT_X11_within zwM_RX11_183 rfl (by decide) rfl (Nat.le_of_ble_eq_true rfl) dX11_ford_11 (fun mh4 v3 h4 => ?_))
  obtain rfl := zpuE h4
  refine zv_if_eq (tgt := 22) dX11_ford_14 (by decide) ?_ ?_
  · refine zv_iconst (z := (-1)) dX11_ford_22 ?_
    exact zv_ret (fun h => h) (zv_iret dX11_ford_23)
  refine zv_iload_n dX11_ford_17 3 rfl ?_
  refine zv_iconst (z := (-1)) dX11_ford_18 ?_
  refine zv_icmp_ge (tgt := 24) dX11_ford_19 (by decide) ?_ ?_
  · refine zv_rload_n dX11_ford_24 0 rfl ?_
    refine zv_iload_n dX11_ford_25 1 rfl ?_
    refine zv_vc (zv_callVv [iv p1] (c_X11_finds κ.2.1 hw p0 p1 M0 hp0) zmd_X11_finds zwI_X11_finds zwS_X11_finds zwM_RX11_385 zcd_11 hp0 rfl (by decide) rfl (Nat.le_of_ble_eq_true rfl) dX11_ford_26 (fun M5 _ _ => ?_))
    refine zv_iconst (z := 0) dX11_ford_29 ?_
    refine zv_istore_p (L' := [(4, iv 0), (0, rn w p0), (1, iv p1), (2, iv p2), (3, iv p3)]) dX11_ford_30 (by decide) rfl ?_
    refine zv_iconst (z := 0) dX11_ford_32 ?_
    refine zv_istore_p (L' := [(5, iv 0), (4, iv 0), (0, rn w p0), (1, iv p1), (2, iv p2), (3, iv p3)]) dX11_ford_33 (by decide) rfl ?_
    refine zv_joinS1 (fun r => r) 141 (fun x33 => [(3, iv p3), (4, iv x33)]) (fun x33 => []) (fun x33 => M5) (zv_sub (L' := [(4, iv 0), (5, iv 0), (0, rn w p0), (2, iv p2), (3, iv p3)]) [1, 0, 2, 4, 5] rfl (vl_X11_ford_35 hw p0 p2 p3 hp0 M5 _ (fun _ h => ((fun h => h)) h) (fun _ h => ((fun h => h)) h) 0 0)) (fun x33 => ?_)
    refine zv_iload_n dX11_ford_141 0 rfl ?_
    refine zv_iconst (z := (-1)) dX11_ford_142 ?_
    refine zv_icmp_ne (tgt := 151) dX11_ford_143 (by decide) ?_ ?_
    · refine zv_iconst (z := (-1)) dX11_ford_151 ?_
      exact zv_ret (fun h => h) (zv_iret dX11_ford_152)
    refine zv_iload dX11_ford_146 1 rfl ?_
    refine zv_goto (tgt := 152) dX11_ford_148 (by decide) ?_
    exact zv_ret (fun h => h) (zv_iret dX11_ford_152)
  refine zv_iconst (z := (-1)) dX11_ford_22 ?_
  exact zv_ret (fun h => h) (zv_iret dX11_ford_23)
def f_X11_found (k : zK)  (p0 : Nat) (p1 : Int) (p2 : Int) (M0 : zM) : Option Int :=
  zb1 (f_X11_isFind k p0 p1 M0) (fun v1 => zbr v1 0 (v1 = 0) (some (-1)) (zb1 (f_X11_within k p2 0 3 M0) (fun v3 => zbr v3 0 (¬ v3 = 0) (zbr p2 0 (¬ p2 = 0) (zbr p2 1 (¬ p2 = 1) (zbr p2 2 (¬ p2 = 2) (zgd (0 ≤ p1 ∧ p1 < 240) (some (M0 (zfr k p0 13) p1.toNat))) (zgd (0 ≤ p1 ∧ p1 < 240) (some (M0 (zfr k p0 12) p1.toNat)))) (zgd (0 ≤ p1 ∧ p1 < 240) (some (M0 (zfr k p0 11) p1.toNat)))) (zgd (0 ≤ p1 ∧ p1 < 240) (some (M0 (zfr k p0 10) p1.toNat)))) (some (-1)))))
theorem c_X11_found (l : Launch) {w : zW} (hw : zWk w)  (p0 : Nat) (p1 : Int) (p2 : Int) (M0 : zM) (hp0 : ztag w.1 p0 = 12) : zCn l yX11_found cX11_found 3 (some .int) (1) 1 w [rn w p0, iv p1, iv p2] M0 ((f_X11_found w.1 p0 p1 p2 M0).map fun v => (M0, v)) := by
  have hT := hw.1
  refine zCn_ofP (own := RX11) (by decide) rfl hw (Nat.le_of_ble_eq_true rfl) [(0, rn w p0), (1, iv p1), (2, iv p2)] rfl ?_
  intro κ hl
  subst hl
  unfold f_X11_found
  refine zv_rload_n dX11_found_0 0 rfl ?_
  refine zv_iload_n dX11_found_1 1 rfl ?_
  refine zv_pc (zv_callVi [iv p1] (c_X11_isFind κ.2.1 hw p0 p1 M0 hp0) zmd_X11_isFind zwI_X11_isFind zwS_X11_isFind zwM_RX11_446 zcd_11 hp0 rfl (by decide) rfl (Nat.le_of_ble_eq_true rfl) dX11_found_2 (fun mh2 v1 h2 => ?_))
  obtain rfl := zpuE h2
  refine zv_if_eq (tgt := 17) dX11_found_5 (by decide) ?_ ?_
  · refine zv_iconst (z := (-1)) dX11_found_17 ?_
    exact zv_ret (fun h => h) (zv_iret dX11_found_18)
  refine zv_iload_n dX11_found_8 2 rfl ?_
  refine zv_iconst (z := 0) dX11_found_9 ?_
  refine zv_iconst (z := 3) dX11_found_10 ?_
  refine zv_pc (zv_callSi [iv p2, iv 0, iv 3] (c_X11_within κ.2.1 hw p2 0 3 M0 ) zmd_X11_within zwT_X11_within zwM_RX11_183 rfl (by decide) rfl (Nat.le_of_ble_eq_true rfl) dX11_found_11 (fun mh4 v3 h4 => ?_))
  obtain rfl := zpuE h4
  refine zv_if_ne (tgt := 19) dX11_found_14 (by decide) ?_ ?_
  · refine zv_iload_n dX11_found_19 2 rfl ?_
    refine zv_if_ne (tgt := 32) dX11_found_20 (by decide) ?_ ?_
    · refine zv_iload_n dX11_found_32 2 rfl ?_
      refine zv_iconst (z := 1) dX11_found_33 ?_
      refine zv_icmp_ne (tgt := 46) dX11_found_34 (by decide) ?_ ?_
      · refine zv_iload_n dX11_found_46 2 rfl ?_
        refine zv_iconst (z := 2) dX11_found_47 ?_
        refine zv_icmp_ne (tgt := 60) dX11_found_48 (by decide) ?_ ?_
        · refine zv_rload_n dX11_found_60 0 rfl ?_
          refine zg_RX11_49 dX11_found_61 hp0 ?_
          refine zv_iload_n dX11_found_64 1 rfl ?_
          refine zv_iald dX11_found_65 (zta_11_13 hT hp0) (ztl_11_13 hT hp0) (by decide) ?_
          exact zv_ret (fun h => h) (zv_iret dX11_found_66)
        refine zv_rload_n dX11_found_51 0 rfl ?_
        refine zg_RX11_46 dX11_found_52 hp0 ?_
        refine zv_iload_n dX11_found_55 1 rfl ?_
        refine zv_iald dX11_found_56 (zta_11_12 hT hp0) (ztl_11_12 hT hp0) (by decide) ?_
        refine zv_goto (tgt := 66) dX11_found_57 (by decide) ?_
        exact zv_ret (fun h => h) (zv_iret dX11_found_66)
      refine zv_rload_n dX11_found_37 0 rfl ?_
      refine zg_RX11_43 dX11_found_38 hp0 ?_
      refine zv_iload_n dX11_found_41 1 rfl ?_
      refine zv_iald dX11_found_42 (zta_11_11 hT hp0) (ztl_11_11 hT hp0) (by decide) ?_
      refine zv_goto (tgt := 66) dX11_found_43 (by decide) ?_
      exact zv_ret (fun h => h) (zv_iret dX11_found_66)
    refine zv_rload_n dX11_found_23 0 rfl ?_
    refine zg_RX11_40 dX11_found_24 hp0 ?_
    refine zv_iload_n dX11_found_27 1 rfl ?_
    refine zv_iald dX11_found_28 (zta_11_10 hT hp0) (ztl_11_10 hT hp0) (by decide) ?_
    refine zv_goto (tgt := 66) dX11_found_29 (by decide) ?_
    exact zv_ret (fun h => h) (zv_iret dX11_found_66)
  refine zv_iconst (z := (-1)) dX11_found_17 ?_
  exact zv_ret (fun h => h) (zv_iret dX11_found_18)
def fb_X11_goesOn_13 (k : zK)  (l0 : Nat) (l1 : Int) (M0 : zM) (y2 : Int) : Option ((Int) ⊕ (Int)) :=
  zbr y2 0 (y2 < 0) (some (.inr y2)) (zgd (0 ≤ y2 ∧ y2 < 10) (zbr (M0 (zfr k l0 67) y2.toNat) 0 (¬ M0 (zfr k l0 67) y2.toNat = 0) (some (.inr y2)) (zlt (y2 + (-1)) (fun x3 => some (.inl (x3))))))
def f_X11_goesOn (k : zK)  (p0 : Nat) (M0 : zM) : Option (zM × Int) :=
  zgd (0 ≤ (0 : Int) ∧ (0 : Int) < 4) (zlt ((M0 (zfr k p0 3) (Int.toNat 0)) - 1) (fun x1 => zlt (x1 - 1) (fun x2 => zb1 (zw1 (fb_X11_goesOn_13 k p0 x1 M0) zfu x2) (fun x4 => zbr x4 0 (0 ≤ x4) (zgd (0 ≤ x1 ∧ x1 < 10) (zlt (M0 (zfr k p0 67) x1.toNat) (fun x5 => zgd (0 ≤ x1 ∧ x1 < 10) (zlt (zst M0 (zfr k p0 67) x1.toNat (0)) (fun M6 => zgd (0 ≤ x4 ∧ x4 < 10) (zgd (0 ≤ x4 ∧ x4 < 10) (zlt (zst M6 (zfr k p0 67) x4.toNat ((M6 (zfr k p0 67) x4.toNat) - 1)) (fun M7 => zgd (0 ≤ x4 + 1 ∧ x4 + 1 < 10) (zlt (zst M7 (zfr k p0 67) (x4 + 1).toNat (x5 + 1)) (fun M8 => some (M8, 1))))))))))) (some (M0, 0))))))
theorem vl_X11_goesOn_13 {κ : zC} {w : zW} (hw : zWk w)  (l0 : Nat) (l1 : Int) (g0 : ztag w.1 l0 = 12) (M0 : zM) (E : (Int) → Prop) (hX : ∀ (u2 : Int), E u2 → zB cX11_goesOn RX11 4 (some .boolean) κ w (0, 0, 0) 32 [(0, rn w l0), (1, iv l1), (2, iv u2)] [] M0)  (y2 : Int) :
    zV cX11_goesOn RX11 4 (some .boolean) κ w (0, 0, 0) 13 [(2, iv y2), (0, rn w l0), (1, iv l1)] [] M0 (zw1 (fb_X11_goesOn_13 w.1 l0 l1 M0) zfu y2) E := by
  have hT := hw.1
  refine zv_loop1 (fun y2 => [(2, iv y2), (0, rn w l0), (1, iv l1)]) (fun y2 => M0) (fun y2 => ?_) y2
  unfold fb_X11_goesOn_13
  refine zv_iload_n dX11_goesOn_13 0 rfl ?_
  refine zv_if_lt (tgt := 32) dX11_goesOn_14 (by decide) ?_ ?_
  · exact zv_sub (L' := [(0, rn w l0), (1, iv l1), (2, iv y2)]) [1, 2, 0] rfl (zv_exit (fun h => hX _ h))
  refine zv_rload_n dX11_goesOn_17 1 rfl ?_
  refine zg_RX11_157 dX11_goesOn_18 g0 ?_
  refine zv_iload_n dX11_goesOn_21 0 rfl ?_
  refine zv_iald dX11_goesOn_22 (zta_11_67 hT g0) (ztl_11_67 hT g0) (by decide) ?_
  refine zv_if_ne (tgt := 32) dX11_goesOn_23 (by decide) ?_ ?_
  · exact zv_sub (L' := [(0, rn w l0), (1, iv l1), (2, iv y2)]) [1, 2, 0] rfl (zv_exit (fun h => hX _ h))
  refine zv_iinc dX11_goesOn_26 0 rfl (fun x3 => [(2, iv x3), (0, rn w l0), (1, iv l1)]) (by decide) (fun _ => rfl) (fun x3 => ?_)
  refine zv_goto (tgt := 13) dX11_goesOn_29 (by decide) ?_
  exact zv_sub (L' := [(2, iv x3), (0, rn w l0), (1, iv l1)]) [0, 1, 2] rfl (zv_exit (fun h => h))
theorem c_X11_goesOn (l : Launch) {w : zW} (hw : zWk w)  (p0 : Nat) (M0 : zM) (hp0 : ztag w.1 p0 = 12) : zCn l yX11_goesOn cX11_goesOn 4 (some .boolean) (0) 1 w [rn w p0] M0 (f_X11_goesOn w.1 p0 M0) := by
  have hT := hw.1
  refine zCn_of (own := RX11) (by decide) rfl hw (Nat.le_of_ble_eq_true rfl) [(0, rn w p0)] rfl ?_
  intro κ hl
  subst hl
  unfold f_X11_goesOn
  refine zv_rload_n dX11_goesOn_0 0 rfl ?_
  refine zg_RX11_19 dX11_goesOn_1 hp0 ?_
  refine zv_iconst (z := 0) dX11_goesOn_4 ?_
  refine zv_iald dX11_goesOn_5 (zta_11_3 hT hp0) (ztl_11_3 hT hp0) (by decide) ?_
  refine zv_iconst (z := 1) dX11_goesOn_6 ?_
  refine zv_isub dX11_goesOn_7 ?_
  refine zv_istore_n (i := 1) (by rfl) dX11_goesOn_8 (fun x1 => [(1, iv x1), (0, rn w p0)]) (by decide) (fun _ => rfl) (fun x1 => ?_)
  refine zv_iload_n dX11_goesOn_9 0 rfl ?_
  refine zv_iconst (z := 1) dX11_goesOn_10 ?_
  refine zv_isub dX11_goesOn_11 ?_
  refine zv_istore_n (i := 2) (by rfl) dX11_goesOn_12 (fun x2 => [(2, iv x2), (1, iv x1), (0, rn w p0)]) (by decide) (fun _ => rfl) (fun x2 => ?_)
  refine zv_join1 32 (fun x4 => [(0, rn w p0), (1, iv x1), (2, iv x4)]) (fun x4 => []) (fun x4 => M0) (zv_sub (L' := [(2, iv x2), (0, rn w p0), (1, iv x1)]) [0, 2, 1] rfl (vl_X11_goesOn_13 hw p0 x1 hp0 M0 _ (fun _ h => h) x2)) (fun x4 => ?_)
  refine zv_iload_n dX11_goesOn_32 2 rfl ?_
  refine zv_if_ge (tgt := 38) dX11_goesOn_33 (by decide) ?_ ?_
  · refine zv_rload_n dX11_goesOn_38 0 rfl ?_
    refine zg_RX11_157 dX11_goesOn_39 hp0 ?_
    refine zv_iload_n dX11_goesOn_42 1 rfl ?_
    refine zv_iald dX11_goesOn_43 (zta_11_67 hT hp0) (ztl_11_67 hT hp0) (by decide) ?_
    refine zv_istore_n (i := 3) (by rfl) dX11_goesOn_44 (fun x5 => [(3, iv x5), (0, rn w p0), (1, iv x1), (2, iv x4)]) (by decide) (fun _ => rfl) (fun x5 => ?_)
    refine zv_rload_n dX11_goesOn_45 1 rfl ?_
    refine zg_RX11_157 dX11_goesOn_46 hp0 ?_
    refine zv_iload_n dX11_goesOn_49 2 rfl ?_
    refine zv_iconst (z := 0) dX11_goesOn_50 ?_
    refine zv_iast dX11_goesOn_51 (zta_11_67 hT hp0) (ztl_11_67 hT hp0) (by decide) (fun M6 => ?_)
    refine zv_rload_n dX11_goesOn_52 1 rfl ?_
    refine zg_RX11_157 dX11_goesOn_53 hp0 ?_
    refine zv_iload_n dX11_goesOn_56 3 rfl ?_
    refine zv_dup2 dX11_goesOn_57 rfl rfl ?_
    refine zv_iald dX11_goesOn_58 (zta_11_67 hT hp0) (ztl_11_67 hT hp0) (by decide) ?_
    refine zv_iconst (z := 1) dX11_goesOn_59 ?_
    refine zv_isub dX11_goesOn_60 ?_
    refine zv_iast dX11_goesOn_61 (zta_11_67 hT hp0) (ztl_11_67 hT hp0) (by decide) (fun M7 => ?_)
    refine zv_rload_n dX11_goesOn_62 1 rfl ?_
    refine zg_RX11_157 dX11_goesOn_63 hp0 ?_
    refine zv_iload_n dX11_goesOn_66 3 rfl ?_
    refine zv_iconst (z := 1) dX11_goesOn_67 ?_
    refine zv_iadd dX11_goesOn_68 ?_
    refine zv_iload_n dX11_goesOn_69 0 rfl ?_
    refine zv_iconst (z := 1) dX11_goesOn_70 ?_
    refine zv_iadd dX11_goesOn_71 ?_
    refine zv_iast dX11_goesOn_72 (zta_11_67 hT hp0) (ztl_11_67 hT hp0) (by decide) (fun M8 => ?_)
    refine zv_iconst (z := 1) dX11_goesOn_73 ?_
    exact zv_ret (fun h => h) (zv_zrB (by decide) dX11_goesOn_74)
  refine zv_iconst (z := 0) dX11_goesOn_36 ?_
  exact zv_ret (fun h => h) (zv_zrB (by decide) dX11_goesOn_37)
def f_X11_isGone (k : zK)  (p0 : Nat) (p1 : Int) (p2 : Int) (p3 : Int) (M0 : zM) : Option Int :=
  zgd (0 ≤ p1 ∧ p1 < 256) (zbr (M0 (zfr k p0 55) p1.toNat) 0 (M0 (zfr k p0 55) p1.toNat = 0) (some 0) (zb1 (f_X11_heightOf k p0 p1 M0) (fun v1 => zgd (0 ≤ p1 ∧ p1 < 256) (zbr v1 (p2 - (p3 * (M0 (zfr k p0 57) p1.toNat))) (p2 - (p3 * (M0 (zfr k p0 57) p1.toNat)) ≤ v1) (some 0) (some 1)))))
theorem c_X11_isGone (l : Launch) {w : zW} (hw : zWk w)  (p0 : Nat) (p1 : Int) (p2 : Int) (p3 : Int) (M0 : zM) (hp0 : ztag w.1 p0 = 12) : zCn l yX11_isGone cX11_isGone 4 (some .boolean) (1) 1 w [rn w p0, iv p1, iv p2, iv p3] M0 ((f_X11_isGone w.1 p0 p1 p2 p3 M0).map fun v => (M0, v)) := by
  have hT := hw.1
  refine zCn_ofP (own := RX11) (by decide) rfl hw (Nat.le_of_ble_eq_true rfl) [(0, rn w p0), (1, iv p1), (2, iv p2), (3, iv p3)] rfl ?_
  intro κ hl
  subst hl
  unfold f_X11_isGone
  refine zv_rload_n dX11_isGone_0 0 rfl ?_
  refine zg_RX11_139 dX11_isGone_1 hp0 ?_
  refine zv_iload_n dX11_isGone_4 1 rfl ?_
  refine zv_zald dX11_isGone_5 (zta_11_55 hT hp0) (ztl_11_55 hT hp0) (by decide) ?_
  refine zv_if_eq (tgt := 31) dX11_isGone_6 (by decide) ?_ ?_
  · refine zv_iconst (z := 0) dX11_isGone_31 ?_
    exact zv_ret (fun h => h) (zv_zrB (by decide) dX11_isGone_32)
  refine zv_rload_n dX11_isGone_9 0 rfl ?_
  refine zv_iload_n dX11_isGone_10 1 rfl ?_
  refine zv_pc (zv_callVi [iv p1] (c_X11_heightOf κ.2.1 hw p0 p1 M0 hp0) zmd_X11_heightOf zwI_X11_heightOf zwS_X11_heightOf zwM_RX11_356 zcd_11 hp0 rfl (by decide) rfl (Nat.le_of_ble_eq_true rfl) dX11_isGone_11 (fun mh2 v1 h2 => ?_))
  obtain rfl := zpuE h2
  refine zv_iload_n dX11_isGone_14 2 rfl ?_
  refine zv_iload_n dX11_isGone_15 3 rfl ?_
  refine zv_rload_n dX11_isGone_16 0 rfl ?_
  refine zg_RX11_145 dX11_isGone_17 hp0 ?_
  refine zv_iload_n dX11_isGone_20 1 rfl ?_
  refine zv_iald dX11_isGone_21 (zta_11_57 hT hp0) (ztl_11_57 hT hp0) (by decide) ?_
  refine zv_imul dX11_isGone_22 ?_
  refine zv_isub dX11_isGone_23 ?_
  refine zv_icmp_ge (tgt := 31) dX11_isGone_24 (by decide) ?_ ?_
  · refine zv_iconst (z := 0) dX11_isGone_31 ?_
    exact zv_ret (fun h => h) (zv_zrB (by decide) dX11_isGone_32)
  refine zv_iconst (z := 1) dX11_isGone_27 ?_
  refine zv_goto (tgt := 32) dX11_isGone_28 (by decide) ?_
  exact zv_ret (fun h => h) (zv_zrB (by decide) dX11_isGone_32)
def f_X11_isWave (k : zK)  (p0 : Int) (p1 : Int) (p2 : Int) (M0 : zM) : Option Int :=
  zb1 (f_X11_isAge k p0 M0) (fun v1 => zbr v1 0 (v1 = 0) (some 0) (zb1 (f_X11_within k p1 1 99 M0) (fun v3 => zbr v3 0 (v3 = 0) (some 0) (zb1 (f_X11_within k p2 0 20 M0) (fun v5 => zbr v5 0 (v5 = 0) (some 0) (some 1))))))
theorem c_X11_isWave (l : Launch) {w : zW} (hw : zWk w)  (p0 : Int) (p1 : Int) (p2 : Int) (M0 : zM)  : zCn l yX11_isWave cX11_isWave 3 (some .boolean) (1) 1 w [iv p0, iv p1, iv p2] M0 ((f_X11_isWave w.1 p0 p1 p2 M0).map fun v => (M0, v)) := by
  have hT := hw.1
  refine zCn_ofP (own := RX11) (by decide) rfl hw (Nat.le_of_ble_eq_true rfl) [(0, iv p0), (1, iv p1), (2, iv p2)] rfl ?_
  intro κ hl
  subst hl
  unfold f_X11_isWave
  refine zv_iload_n dX11_isWave_0 0 rfl ?_
  refine zv_pc (zv_callSi [iv p0] (c_X11_isAge κ.2.1 hw p0 M0 ) zmd_X11_isAge zwT_X11_isAge zwM_RX11_335 rfl (by decide) rfl (Nat.le_of_ble_eq_true rfl) dX11_isWave_1 (fun mh2 v1 h2 => ?_))
  obtain rfl := zpuE h2
  refine zv_if_eq (tgt := 31) dX11_isWave_4 (by decide) ?_ ?_
  · refine zv_iconst (z := 0) dX11_isWave_31 ?_
    exact zv_ret (fun h => h) (zv_zrB (by decide) dX11_isWave_32)
  refine zv_iload_n dX11_isWave_7 1 rfl ?_
  refine zv_iconst (z := 1) dX11_isWave_8 ?_
  refine zv_bipush (z := 99) dX11_isWave_9 (by decide) ?_
  refine zv_pc (zv_callSi [iv p1, iv 1, iv 99] (c_X11_within κ.2.1 hw p1 1 99 M0 ) zmd_X11_within zwT_X11_within zwM_RX11_183 rfl (by decide) rfl (Nat.le_of_ble_eq_true rfl) dX11_isWave_11 (fun mh4 v3 h4 => ?_))
  obtain rfl := zpuE h4
  refine zv_if_eq (tgt := 31) dX11_isWave_14 (by decide) ?_ ?_
  · refine zv_iconst (z := 0) dX11_isWave_31 ?_
    exact zv_ret (fun h => h) (zv_zrB (by decide) dX11_isWave_32)
  refine zv_iload_n dX11_isWave_17 2 rfl ?_
  refine zv_iconst (z := 0) dX11_isWave_18 ?_
  refine zv_bipush (z := 20) dX11_isWave_19 (by decide) ?_
  refine zv_pc (zv_callSi [iv p2, iv 0, iv 20] (c_X11_within κ.2.1 hw p2 0 20 M0 ) zmd_X11_within zwT_X11_within zwM_RX11_183 rfl (by decide) rfl (Nat.le_of_ble_eq_true rfl) dX11_isWave_21 (fun mh6 v5 h6 => ?_))
  obtain rfl := zpuE h6
  refine zv_if_eq (tgt := 31) dX11_isWave_24 (by decide) ?_ ?_
  · refine zv_iconst (z := 0) dX11_isWave_31 ?_
    exact zv_ret (fun h => h) (zv_zrB (by decide) dX11_isWave_32)
  refine zv_iconst (z := 1) dX11_isWave_27 ?_
  refine zv_goto (tgt := 32) dX11_isWave_28 (by decide) ?_
  exact zv_ret (fun h => h) (zv_zrB (by decide) dX11_isWave_32)
def f_X11_gone (k : zK)  (p0 : Nat) (p1 : Int) (p2 : Int) (p3 : Int) (p4 : Int) (M0 : zM) : Option (zM × Int) :=
  zb1 (f_X11_isCell k p1 M0) (fun v1 => zbr v1 0 (v1 = 0) (some (M0, (-2))) (zb1 (f_X11_isWave k p2 p3 p4 M0) (fun v3 => zbr v3 0 (¬ v3 = 0) (zb1 (f_X11_finds k p0 p2 M0) (fun M5 => zgd (0 ≤ p1 ∧ p1 < 256) (zbr (M5 (zfr k p0 55) p1.toNat) 0 (¬ M5 (zfr k p0 55) p1.toNat = 0) (zb1 (f_X11_isGone k p0 p1 p3 p4 M5) (fun v6 => zbr v6 0 (v6 = 0) (some (M5, 0)) (some (M5, 1)))) (some (M5, (-1)))))) (some (M0, (-2))))))
theorem c_X11_gone (l : Launch) {w : zW} (hw : zWk w)  (p0 : Nat) (p1 : Int) (p2 : Int) (p3 : Int) (p4 : Int) (M0 : zM) (hp0 : ztag w.1 p0 = 12) : zCn l yX11_gone cX11_gone 5 (some .int) (4) 1 w [rn w p0, iv p1, iv p2, iv p3, iv p4] M0 (f_X11_gone w.1 p0 p1 p2 p3 p4 M0) := by
  have hT := hw.1
  refine zCn_of (own := RX11) (by decide) rfl hw (Nat.le_of_ble_eq_true rfl) [(0, rn w p0), (1, iv p1), (2, iv p2), (3, iv p3), (4, iv p4)] rfl ?_
  intro κ hl
  subst hl
  unfold f_X11_gone
  refine zv_iload_n dX11_gone_0 1 rfl ?_
  refine zv_pc (zv_callSi [iv p1] (c_X11_isCell κ.2.1 hw p1 M0 ) zmd_X11_isCell zwT_X11_isCell zwM_RX11_191 rfl (by decide) rfl (Nat.le_of_ble_eq_true rfl) dX11_gone_1 (fun mh2 v1 h2 => ?_))
  obtain rfl := zpuE h2
  refine zv_if_eq (tgt := 17) dX11_gone_4 (by decide) ?_ ?_
  · refine zv_bipush (z := (-2)) dX11_gone_17 (by decide) ?_
    exact zv_ret (fun h => h) (zv_iret dX11_gone_19)
  refine zv_iload_n dX11_gone_7 2 rfl ?_
  refine zv_iload_n dX11_gone_8 3 rfl ?_
  refine zv_iload dX11_gone_9 4 rfl ?_
  refine zv_pc (zv_callSi [iv p2, iv p3, iv p4] (c_X11_isWave κ.2.1 hw p2 p3 p4 M0 ) zmd_X11_isWave zwT_X11_isWave zwM_RX11_453 rfl (by decide) rfl (Nat.le_of_ble_eq_true rfl) dX11_gone_11 (fun mh4 v3 h4 => ?_))
  obtain rfl := zpuE h4
  refine zv_if_ne (tgt := 20) dX11_gone_14 (by decide) ?_ ?_
  · refine zv_rload_n dX11_gone_20 0 rfl ?_
    refine zv_iload_n dX11_gone_21 2 rfl ?_
    refine zv_vc (zv_callVv [iv p2] (c_X11_finds κ.2.1 hw p0 p2 M0 hp0) zmd_X11_finds zwI_X11_finds zwS_X11_finds zwM_RX11_385 zcd_11 hp0 rfl (by decide) rfl (Nat.le_of_ble_eq_true rfl) dX11_gone_22 (fun M5 _ _ => ?_))
    refine zv_rload_n dX11_gone_25 0 rfl ?_
    refine zg_RX11_139 dX11_gone_26 hp0 ?_
    refine zv_iload_n dX11_gone_29 1 rfl ?_
    refine zv_zald dX11_gone_30 (zta_11_55 hT hp0) (ztl_11_55 hT hp0) (by decide) ?_
    refine zv_if_ne (tgt := 38) dX11_gone_31 (by decide) ?_ ?_
    · refine zv_rload_n dX11_gone_38 0 rfl ?_
      refine zv_iload_n dX11_gone_39 1 rfl ?_
      refine zv_iload_n dX11_gone_40 3 rfl ?_
      refine zv_iload dX11_gone_41 4 rfl ?_
      refine zv_pc (zv_callVi [iv p1, iv p3, iv p4] (c_X11_isGone κ.2.1 hw p0 p1 p3 p4 M5 hp0) zmd_X11_isGone zwI_X11_isGone zwS_X11_isGone zwM_RX11_456 zcd_11 hp0 rfl (by decide) rfl (Nat.le_of_ble_eq_true rfl) dX11_gone_43 (fun mh7 v6 h7 => ?_))
      obtain rfl := zpuE h7
      refine zv_if_eq (tgt := 53) dX11_gone_46 (by decide) ?_ ?_
      · refine zv_iconst (z := 0) dX11_gone_53 ?_
        exact zv_ret (fun h => h) (zv_iret dX11_gone_54)
      refine zv_iconst (z := 1) dX11_gone_49 ?_
      refine zv_goto (tgt := 54) dX11_gone_50 (by decide) ?_
      exact zv_ret (fun h => h) (zv_iret dX11_gone_54)
    refine zv_iconst (z := (-1)) dX11_gone_34 ?_
    refine zv_goto (tgt := 54) dX11_gone_35 (by decide) ?_
    exact zv_ret (fun h => h) (zv_iret dX11_gone_54)
  refine zv_bipush (z := (-2)) dX11_gone_17 (by decide) ?_
  exact zv_ret (fun h => h) (zv_iret dX11_gone_19)
def fb_X11_height_50 (k : zK)  (l0 : Nat) (l2 : Int) (l3 : Int) (l4 : Int) (l5 : Int) (l6 : Int) (l7 : Int) (M0 : zM) (y8 : Int) (y9 : Int) : Option ((Int × Int) ⊕ (Int)) :=
  zbr y9 256 (256 ≤ y9) (some (.inr y8)) (zbr y8 0 (y8 = 0) (some (.inr y8)) (zgd (0 ≤ y9 ∧ y9 < 1024) (zsp1 (zbr (M0 (zfr k l0 8) y9.toNat) 0 (M0 (zfr k l0 8) y9.toNat < 0) (some (.inl y9)) (zgd (0 ≤ y9 ∧ y9 < 1024) (zbr (M0 (zfr k l0 8) y9.toNat) 1 (¬ M0 (zfr k l0 8) y9.toNat = 1) (zb1 (f_X11_isGone k l0 y9 l7 l2 M0) (fun v6 => zbr v6 0 (¬ v6 = 0) (zlt (y9 + 1) (fun x8 => some (.inr (.inl (0, x8))))) (some (.inl y9)))) (zgd (0 ≤ y9 ∧ y9 < 256) (zbr (M0 (zfr k l0 55) y9.toNat) 0 (M0 (zfr k l0 55) y9.toNat = 0) (some (.inl y9)) (zb1 (f_X11_isGone k l0 y9 l7 l2 M0) (fun v9 => zbr v9 0 (v9 = 0) (zlt (y9 + 1) (fun x11 => some (.inr (.inl (0, x11))))) (some (.inl y9))))))))) (fun r => some r) (fun x12 => zlt (x12 + 1) (fun x13 => some (.inl (1, x13)))))))
def fb_X11_height_37 (k : zK)  (l0 : Nat) (l2 : Int) (l3 : Int) (M0 : zM) (y4 : Int) (y5 : Int) (y6 : Int) (y7 : Int) : Option ((Int × Int × Int × Int) ⊕ (Int × Int × Int)) :=
  zbr y7 99 (99 < y7) (some (.inr (y4, y5, y6))) (zb1 (zw2 (fb_X11_height_50 k l0 l2 l3 y4 y5 y6 y7 M0) zfu 1 0) (fun x14 => zbr x14 0 (¬ x14 = 0) (zb1 (zbr y4 0 (0 ≤ y4) (some (y4)) (some (y7))) (fun x15 => zlt (y6 + 1) (fun x16 => zlt (y7 + 1) (fun x17 => some (.inl (x15, y7, x16, x17)))))) (zlt (y7 + 1) (fun x18 => some (.inl (y4, y5, y6, x18))))))
def f_X11_height (k : zK)  (p0 : Nat) (p1 : Int) (p2 : Int) (p3 : Int) (M0 : zM) : Option (zM × Int) :=
  zb1 (f_X11_isWave k p1 1 p2 M0) (fun v1 => zbr v1 0 (v1 = 0) (some (M0, (-1))) (zb1 (f_X11_within k p3 0 2 M0) (fun v3 => zbr v3 0 (¬ v3 = 0) (zb1 (f_X11_finds k p0 p1 M0) (fun M5 => zb3 (zw4 (fb_X11_height_37 k p0 p2 p3 M5) zfu (-1) (-1) 0 1) (fun x19 x20 x21 => zbr p3 0 (¬ p3 = 0) (zbr p3 1 (¬ p3 = 1) (some (M5, x21)) (some (M5, x20))) (some (M5, x19))))) (some (M0, (-1))))))
set_option maxRecDepth 20000 in
theorem vl_X11_height_50 {κ : zC} {w : zW} (hw : zWk w)  (l0 : Nat) (l2 : Int) (l3 : Int) (l4 : Int) (l5 : Int) (l6 : Int) (l7 : Int) (g0 : ztag w.1 l0 = 12) (M0 : zM) (E : (Int) → Prop) (hX : ∀ (u8 : Int), E u8 → zB cX11_height RX11 10 (some .int) κ w (0, 0, 4) 134 [(0, rn w l0), (2, iv l2), (3, iv l3), (4, iv l4), (5, iv l5), (6, iv l6), (7, iv l7), (8, iv u8)] [] M0)  (y8 : Int) (y9 : Int) :
    zV cX11_height RX11 10 (some .int) κ w (0, 0, 4) 50 [(8, iv y8), (9, iv y9), (0, rn w l0), (2, iv l2), (3, iv l3), (4, iv l4), (5, iv l5), (6, iv l6), (7, iv l7)] [] M0 (zw2 (fb_X11_height_50 w.1 l0 l2 l3 l4 l5 l6 l7 M0) zfu y8 y9) E := by
  have hT := hw.1
  refine zv_loop2 (fun y8 y9 => [(8, iv y8), (9, iv y9), (0, rn w l0), (2, iv l2), (3, iv l3), (4, iv l4), (5, iv l5), (6, iv l6), (7, iv l7)]) (fun y8 y9 => M0) (fun y8 y9 => ?_) y8 y9
  unfold fb_X11_height_50
  refine zv_iload dX11_height_50 1 rfl ?_
  refine zv_sipush (z := 256) dX11_height_52 (by decide) ?_
  refine zv_icmp_ge (tgt := 134) dX11_height_55 (by decide) ?_ ?_
  · exact zv_sub (L' := [(0, rn w l0), (2, iv l2), (3, iv l3), (4, iv l4), (5, iv l5), (6, iv l6), (7, iv l7), (8, iv y8)]) [2, 3, 4, 5, 6, 7, 8, 0] rfl (zv_exit (fun h => hX _ h))
  refine zv_iload dX11_height_58 0 rfl ?_
  refine zv_if_eq (tgt := 134) dX11_height_60 (by decide) ?_ ?_
  · exact zv_sub (L' := [(0, rn w l0), (2, iv l2), (3, iv l3), (4, iv l4), (5, iv l5), (6, iv l6), (7, iv l7), (8, iv y8)]) [2, 3, 4, 5, 6, 7, 8, 0] rfl (zv_exit (fun h => hX _ h))
  refine zv_rload_n dX11_height_63 2 rfl ?_
  refine zg_RX11_34 dX11_height_64 g0 ?_
  refine zv_iload dX11_height_67 1 rfl ?_
  refine zv_iald dX11_height_69 (zta_11_8 hT g0) (ztl_11_8 hT g0) (by decide) ?_
  refine zv_joinS1 (fun r => r) 121 (fun x12 => [(9, iv x12), (0, rn w l0), (2, iv l2), (3, iv l3), (4, iv l4), (5, iv l5), (6, iv l6), (7, iv l7)]) (fun x12 => []) (fun x12 => M0) ?_ (fun x12 => ?_)
  · refine zv_if_lt (tgt := 121) dX11_height_70 (by decide) ?_ ?_
    · exact zv_sub (L' := [(9, iv y9), (0, rn w l0), (2, iv l2), (3, iv l3), (4, iv l4), (5, iv l5), (6, iv l6), (7, iv l7)]) [1, 2, 3, 4, 5, 6, 7, 8] rfl (zv_exit (fun h => h))
    refine zv_rload_n dX11_height_73 2 rfl ?_
    refine zg_RX11_34 dX11_height_74 g0 ?_
    refine zv_iload dX11_height_77 1 rfl ?_
    refine zv_iald dX11_height_79 (zta_11_8 hT g0) (ztl_11_8 hT g0) (by decide) ?_
    refine zv_iconst (z := 1) dX11_height_80 ?_
    refine zv_icmp_ne (tgt := 109) dX11_height_81 (by decide) ?_ ?_
    · refine zv_rload_n dX11_height_109 2 rfl ?_
      refine zv_iload dX11_height_110 1 rfl ?_
      refine zv_iload dX11_height_112 8 rfl ?_
      refine zv_iload_n dX11_height_114 3 rfl ?_
      refine zv_pc (zv_callVi [iv y9, iv l7, iv l2] (c_X11_isGone κ.2.1 hw l0 y9 l7 l2 M0 g0) zmd_X11_isGone zwI_X11_isGone zwS_X11_isGone zwM_RX11_456 zcd_11 g0 rfl (by decide) rfl (Nat.le_of_ble_eq_true rfl) dX11_height_115 (fun mh7 v6 h7 => ?_))
      obtain rfl := zpuE h7
      refine zv_if_ne (tgt := 125) dX11_height_118 (by decide) ?_ ?_
      · refine zv_iconst (z := 0) dX11_height_125 ?_
        refine zv_istore_p (L' := [(8, iv 0), (9, iv y9), (0, rn w l0), (2, iv l2), (3, iv l3), (4, iv l4), (5, iv l5), (6, iv l6), (7, iv l7)]) dX11_height_126 (by decide) rfl ?_
        refine zv_iinc dX11_height_128 1 rfl (fun x8 => [(9, iv x8), (8, iv 0), (0, rn w l0), (2, iv l2), (3, iv l3), (4, iv l4), (5, iv l5), (6, iv l6), (7, iv l7)]) (by decide) (fun _ => rfl) (fun x8 => ?_)
        refine zv_goto (tgt := 50) dX11_height_131 (by decide) ?_
        exact zv_sub (L' := [(8, iv 0), (9, iv x8), (0, rn w l0), (2, iv l2), (3, iv l3), (4, iv l4), (5, iv l5), (6, iv l6), (7, iv l7)]) [1, 0, 2, 3, 4, 5, 6, 7, 8] rfl (zv_exit (fun h => h))
      exact zv_sub (L' := [(9, iv y9), (0, rn w l0), (2, iv l2), (3, iv l3), (4, iv l4), (5, iv l5), (6, iv l6), (7, iv l7)]) [1, 2, 3, 4, 5, 6, 7, 8] rfl (zv_exit (fun h => h))
    refine zv_rload_n dX11_height_84 2 rfl ?_
    refine zg_RX11_139 dX11_height_85 g0 ?_
    refine zv_iload dX11_height_88 1 rfl ?_
    refine zv_zald dX11_height_90 (zta_11_55 hT g0) (ztl_11_55 hT g0) (by decide) ?_
    refine zv_if_eq (tgt := 121) dX11_height_91 (by decide) ?_ ?_
    · exact zv_sub (L' := [(9, iv y9), (0, rn w l0), (2, iv l2), (3, iv l3), (4, iv l4), (5, iv l5), (6, iv l6), (7, iv l7)]) [1, 2, 3, 4, 5, 6, 7, 8] rfl (zv_exit (fun h => h))
    refine zv_rload_n dX11_height_94 2 rfl ?_
    refine zv_iload dX11_height_95 1 rfl ?_
    refine zv_iload dX11_height_97 8 rfl ?_
    refine zv_iload_n dX11_height_99 3 rfl ?_
    refine zv_pc (zv_callVi [iv y9, iv l7, iv l2] (c_X11_isGone κ.2.1 hw l0 y9 l7 l2 M0 g0) zmd_X11_isGone zwI_X11_isGone zwS_X11_isGone zwM_RX11_456 zcd_11 g0 rfl (by decide) rfl (Nat.le_of_ble_eq_true rfl) dX11_height_100 (fun mh10 v9 h10 => ?_))
    obtain rfl := zpuE h10
    refine zv_if_eq (tgt := 125) dX11_height_103 (by decide) ?_ ?_
    · refine zv_iconst (z := 0) dX11_height_125 ?_
      refine zv_istore_p (L' := [(8, iv 0), (9, iv y9), (0, rn w l0), (2, iv l2), (3, iv l3), (4, iv l4), (5, iv l5), (6, iv l6), (7, iv l7)]) dX11_height_126 (by decide) rfl ?_
      refine zv_iinc dX11_height_128 1 rfl (fun x11 => [(9, iv x11), (8, iv 0), (0, rn w l0), (2, iv l2), (3, iv l3), (4, iv l4), (5, iv l5), (6, iv l6), (7, iv l7)]) (by decide) (fun _ => rfl) (fun x11 => ?_)
      refine zv_goto (tgt := 50) dX11_height_131 (by decide) ?_
      exact zv_sub (L' := [(8, iv 0), (9, iv x11), (0, rn w l0), (2, iv l2), (3, iv l3), (4, iv l4), (5, iv l5), (6, iv l6), (7, iv l7)]) [1, 0, 2, 3, 4, 5, 6, 7, 8] rfl (zv_exit (fun h => h))
    refine zv_goto (tgt := 121) dX11_height_106 (by decide) ?_
    exact zv_sub (L' := [(9, iv y9), (0, rn w l0), (2, iv l2), (3, iv l3), (4, iv l4), (5, iv l5), (6, iv l6), (7, iv l7)]) [1, 2, 3, 4, 5, 6, 7, 8] rfl (zv_exit (fun h => h))
  refine zv_iconst (z := 1) dX11_height_121 ?_
  refine zv_goto (tgt := 126) dX11_height_122 (by decide) ?_
  refine zv_istore_p (L' := [(8, iv 1), (9, iv x12), (0, rn w l0), (2, iv l2), (3, iv l3), (4, iv l4), (5, iv l5), (6, iv l6), (7, iv l7)]) dX11_height_126 (by decide) rfl ?_
  refine zv_iinc dX11_height_128 1 rfl (fun x13 => [(9, iv x13), (8, iv 1), (0, rn w l0), (2, iv l2), (3, iv l3), (4, iv l4), (5, iv l5), (6, iv l6), (7, iv l7)]) (by decide) (fun _ => rfl) (fun x13 => ?_)
  refine zv_goto (tgt := 50) dX11_height_131 (by decide) ?_
  exact zv_sub (L' := [(8, iv 1), (9, iv x13), (0, rn w l0), (2, iv l2), (3, iv l3), (4, iv l4), (5, iv l5), (6, iv l6), (7, iv l7)]) [1, 0, 2, 3, 4, 5, 6, 7, 8] rfl (zv_exit (fun h => h))
theorem vl_X11_height_37 {κ : zC} {w : zW} (hw : zWk w)  (l0 : Nat) (l2 : Int) (l3 : Int) (g0 : ztag w.1 l0 = 12) (M0 : zM) (E : (Int × Int × Int) → Prop) (hX : ∀ (u4 : Int) (u5 : Int) (u6 : Int), E (u4, u5, u6) → zB cX11_height RX11 10 (some .int) κ w (0, 0, 4) 164 [(3, iv l3), (4, iv u4), (5, iv u5), (6, iv u6)] [] M0)  (y4 : Int) (y5 : Int) (y6 : Int) (y7 : Int) :
    zV cX11_height RX11 10 (some .int) κ w (0, 0, 4) 37 [(4, iv y4), (5, iv y5), (6, iv y6), (7, iv y7), (0, rn w l0), (2, iv l2), (3, iv l3)] [] M0 (zw4 (fb_X11_height_37 w.1 l0 l2 l3 M0) zfu y4 y5 y6 y7) E := by
  have hT := hw.1
  refine zv_loop4 (fun y4 y5 y6 y7 => [(4, iv y4), (5, iv y5), (6, iv y6), (7, iv y7), (0, rn w l0), (2, iv l2), (3, iv l3)]) (fun y4 y5 y6 y7 => M0) (fun y4 y5 y6 y7 => ?_) y4 y5 y6 y7
  unfold fb_X11_height_37
  refine zv_iload dX11_height_37 3 rfl ?_
  refine zv_bipush (z := 99) dX11_height_39 (by decide) ?_
  refine zv_icmp_gt (tgt := 164) dX11_height_41 (by decide) ?_ ?_
  · exact zv_sub (L' := [(3, iv l3), (4, iv y4), (5, iv y5), (6, iv y6)]) [6, 0, 1, 2] rfl (zv_exit (fun h => hX _ _ _ h))
  refine zv_iconst (z := 1) dX11_height_44 ?_
  refine zv_istore_p (L' := [(8, iv 1), (4, iv y4), (5, iv y5), (6, iv y6), (7, iv y7), (0, rn w l0), (2, iv l2), (3, iv l3)]) dX11_height_45 (by decide) rfl ?_
  refine zv_iconst (z := 0) dX11_height_47 ?_
  refine zv_istore_p (L' := [(9, iv 0), (8, iv 1), (4, iv y4), (5, iv y5), (6, iv y6), (7, iv y7), (0, rn w l0), (2, iv l2), (3, iv l3)]) dX11_height_48 (by decide) rfl ?_
  refine zv_join1 134 (fun x14 => [(0, rn w l0), (2, iv l2), (3, iv l3), (4, iv y4), (5, iv y5), (6, iv y6), (7, iv y7), (8, iv x14)]) (fun x14 => []) (fun x14 => M0) (zv_sub (L' := [(8, iv 1), (9, iv 0), (0, rn w l0), (2, iv l2), (3, iv l3), (4, iv y4), (5, iv y5), (6, iv y6), (7, iv y7)]) [1, 0, 6, 7, 8, 2, 3, 4, 5] rfl (vl_X11_height_50 hw l0 l2 l3 y4 y5 y6 y7 g0 M0 _ (fun _ h => h) 1 0)) (fun x14 => ?_)
  refine zv_iload dX11_height_134 7 rfl ?_
  refine zv_if_ne (tgt := 142) dX11_height_136 (by decide) ?_ ?_
  · refine zv_iload dX11_height_142 3 rfl ?_
    refine zv_join1 151 (fun x15 => [(4, iv x15), (0, rn w l0), (2, iv l2), (3, iv l3), (6, iv y6), (7, iv y7)]) (fun x15 => []) (fun x15 => M0) ?_ (fun x15 => ?_)
    · refine zv_if_ge (tgt := 151) dX11_height_144 (by decide) ?_ ?_
      · exact zv_sub (L' := [(4, iv y4), (0, rn w l0), (2, iv l2), (3, iv l3), (6, iv y6), (7, iv y7)]) [3, 0, 1, 2, 5, 6] rfl (zv_exit (fun h => h))
      refine zv_iload dX11_height_147 6 rfl ?_
      refine zv_istore_p (L' := [(4, iv y7), (0, rn w l0), (2, iv l2), (3, iv l3), (5, iv y5), (6, iv y6), (7, iv y7), (8, iv x14)]) dX11_height_149 (by decide) rfl ?_
      exact zv_sub (L' := [(4, iv y7), (0, rn w l0), (2, iv l2), (3, iv l3), (6, iv y6), (7, iv y7)]) [0, 1, 2, 3, 5, 6] rfl (zv_exit (fun h => h))
    refine zv_iload dX11_height_151 5 rfl ?_
    refine zv_istore_p (L' := [(5, iv y7), (4, iv x15), (0, rn w l0), (2, iv l2), (3, iv l3), (6, iv y6), (7, iv y7)]) dX11_height_153 (by decide) rfl ?_
    refine zv_iinc dX11_height_155 5 rfl (fun x16 => [(6, iv x16), (5, iv y7), (4, iv x15), (0, rn w l0), (2, iv l2), (3, iv l3), (7, iv y7)]) (by decide) (fun _ => rfl) (fun x16 => ?_)
    refine zv_iinc dX11_height_158 6 rfl (fun x17 => [(7, iv x17), (6, iv x16), (5, iv y7), (4, iv x15), (0, rn w l0), (2, iv l2), (3, iv l3)]) (by decide) (fun _ => rfl) (fun x17 => ?_)
    refine zv_goto (tgt := 37) dX11_height_161 (by decide) ?_
    exact zv_sub (L' := [(4, iv x15), (5, iv y7), (6, iv x16), (7, iv x17), (0, rn w l0), (2, iv l2), (3, iv l3)]) [3, 2, 1, 0, 4, 5, 6] rfl (zv_exit (fun h => h))
  refine zv_goto (tgt := 158) dX11_height_139 (by decide) ?_
  refine zv_iinc dX11_height_158 6 rfl (fun x18 => [(7, iv x18), (0, rn w l0), (2, iv l2), (3, iv l3), (4, iv y4), (5, iv y5), (6, iv y6), (8, iv x14)]) (by decide) (fun _ => rfl) (fun x18 => ?_)
  refine zv_goto (tgt := 37) dX11_height_161 (by decide) ?_
  exact zv_sub (L' := [(4, iv y4), (5, iv y5), (6, iv y6), (7, iv x18), (0, rn w l0), (2, iv l2), (3, iv l3)]) [4, 5, 6, 0, 1, 2, 3] rfl (zv_exit (fun h => h))
theorem c_X11_height (l : Launch) {w : zW} (hw : zWk w)  (p0 : Nat) (p1 : Int) (p2 : Int) (p3 : Int) (M0 : zM) (hp0 : ztag w.1 p0 = 12) : zCn l yX11_height cX11_height 10 (some .int) (4) 1 w [rn w p0, iv p1, iv p2, iv p3] M0 (f_X11_height w.1 p0 p1 p2 p3 M0) := by
  have hT := hw.1
  refine zCn_of (own := RX11) (by decide) rfl hw (Nat.le_of_ble_eq_true rfl) [(0, rn w p0), (1, iv p1), (2, iv p2), (3, iv p3)] rfl ?_
  intro κ hl
  subst hl
  unfold f_X11_height
  refine zv_iload_n dX11_height_0 1 rfl ?_
  refine zv_iconst (z := 1) dX11_height_1 ?_
  refine zv_iload_n dX11_height_2 2 rfl ?_
  refine zv_pc (zv_callSi [iv p1, iv 1, iv p2] (c_X11_isWave κ.2.1 hw p1 1 p2 M0 ) zmd_X11_isWave zwT_X11_isWave zwM_RX11_453 rfl (by decide) rfl (Nat.le_of_ble_eq_true rfl) dX11_height_3 (fun mh2 v1 h2 => ?_))
  obtain rfl := zpuE h2
  refine zv_if_eq (tgt := 18) dX11_height_6 (by decide) ?_ ?_
  · refine zv_iconst (z := (-1)) dX11_height_18 ?_
    exact zv_ret (fun h => h) (zv_iret dX11_height_19)
  refine zv_iload_n dX11_height_9 3 rfl ?_
  refine zv_iconst (z := 0) dX11_height_10 ?_
  refine zv_iconst (z := 2) dX11_height_11 ?_
  refine zv_pc (zv_callSi [iv p3, iv 0, iv 2] (c_X11_within κ.2.1 hw p3 0 2 M0 ) zmd_X11_within zwT_X11_within zwM_RX11_183 rfl (by decide) rfl (Nat.le_of_ble_eq_true rfl) dX11_height_12 (fun mh4 v3 h4 => ?_))
  obtain rfl := zpuE h4
  refine zv_if_ne (tgt := 20) dX11_height_15 (by decide) ?_ ?_
  · refine zv_rload_n dX11_height_20 0 rfl ?_
    refine zv_iload_n dX11_height_21 1 rfl ?_
    refine zv_vc (zv_callVv [iv p1] (c_X11_finds κ.2.1 hw p0 p1 M0 hp0) zmd_X11_finds zwI_X11_finds zwS_X11_finds zwM_RX11_385 zcd_11 hp0 rfl (by decide) rfl (Nat.le_of_ble_eq_true rfl) dX11_height_22 (fun M5 _ _ => ?_))
    refine zv_iconst (z := (-1)) dX11_height_25 ?_
    refine zv_istore_p (L' := [(4, iv (-1)), (0, rn w p0), (1, iv p1), (2, iv p2), (3, iv p3)]) dX11_height_26 (by decide) rfl ?_
    refine zv_iconst (z := (-1)) dX11_height_28 ?_
    refine zv_istore_p (L' := [(5, iv (-1)), (4, iv (-1)), (0, rn w p0), (1, iv p1), (2, iv p2), (3, iv p3)]) dX11_height_29 (by decide) rfl ?_
    refine zv_iconst (z := 0) dX11_height_31 ?_
    refine zv_istore_p (L' := [(6, iv 0), (5, iv (-1)), (4, iv (-1)), (0, rn w p0), (1, iv p1), (2, iv p2), (3, iv p3)]) dX11_height_32 (by decide) rfl ?_
    refine zv_iconst (z := 1) dX11_height_34 ?_
    refine zv_istore_p (L' := [(7, iv 1), (6, iv 0), (5, iv (-1)), (4, iv (-1)), (0, rn w p0), (1, iv p1), (2, iv p2), (3, iv p3)]) dX11_height_35 (by decide) rfl ?_
    refine zv_join3 164 (fun x19 x20 x21 => [(3, iv p3), (4, iv x19), (5, iv x20), (6, iv x21)]) (fun x19 x20 x21 => []) (fun x19 x20 x21 => M5) (zv_sub (L' := [(4, iv (-1)), (5, iv (-1)), (6, iv 0), (7, iv 1), (0, rn w p0), (2, iv p2), (3, iv p3)]) [3, 2, 1, 0, 4, 6, 7] rfl (vl_X11_height_37 hw p0 p2 p3 hp0 M5 _ (fun _ _ _ h => h) (-1) (-1) 0 1)) (fun x19 x20 x21 => ?_)
    refine zv_iload_n dX11_height_164 0 rfl ?_
    refine zv_if_ne (tgt := 173) dX11_height_165 (by decide) ?_ ?_
    · refine zv_iload_n dX11_height_173 0 rfl ?_
      refine zv_iconst (z := 1) dX11_height_174 ?_
      refine zv_icmp_ne (tgt := 183) dX11_height_175 (by decide) ?_ ?_
      · refine zv_iload dX11_height_183 3 rfl ?_
        exact zv_ret (fun h => h) (zv_iret dX11_height_185)
      refine zv_iload dX11_height_178 2 rfl ?_
      refine zv_goto (tgt := 185) dX11_height_180 (by decide) ?_
      exact zv_ret (fun h => h) (zv_iret dX11_height_185)
    refine zv_iload dX11_height_168 1 rfl ?_
    refine zv_goto (tgt := 185) dX11_height_170 (by decide) ?_
    exact zv_ret (fun h => h) (zv_iret dX11_height_185)
  refine zv_iconst (z := (-1)) dX11_height_18 ?_
  exact zv_ret (fun h => h) (zv_iret dX11_height_19)
def fb_X11_held_40 (k : zK)  (l0 : Nat) (l2 : Int) (l3 : Int) (M0 : zM) (y4 : Int) (y5 : Int) : Option ((Int × Int) ⊕ (Int)) :=
  zgd (0 ≤ (0 : Int) ∧ (0 : Int) < 4) (zbr y5 (M0 (zfr k l0 2) (Int.toNat 0)) (M0 (zfr k l0 2) (Int.toNat 0) ≤ y5) (some (.inr y4)) (zgd (0 ≤ y5 ∧ y5 < 240) (zb1 (f_X11_rankOf k l0 (M0 (zfr k l0 10) y5.toNat) M0) (fun v8 => zbr v8 l2 (l2 ≤ v8) (zlt (y4 + 0) (fun x10 => zlt (y5 + 1) (fun x11 => some (.inl (x10, x11))))) (zlt (y4 + 1) (fun x12 => zlt (y5 + 1) (fun x13 => some (.inl (x12, x13)))))))))
def f_X11_held (k : zK)  (p0 : Nat) (p1 : Int) (p2 : Int) (p3 : Int) (M0 : zM) : Option (zM × Int) :=
  zb1 (f_X11_isAge k p1 M0) (fun v1 => zbr v1 0 (v1 = 0) (some (M0, (-1))) (zb1 (f_X11_within k p2 1 256 M0) (fun v3 => zbr v3 0 (v3 = 0) (some (M0, (-1))) (zb1 (f_X11_within k p3 0 1 M0) (fun v5 => zbr v5 0 (¬ v5 = 0) (zb1 (f_X11_findLives k p0 p1 M0) (fun M7 => zb1 (zw2 (fb_X11_held_40 k p0 p2 p3 M7) zfu 0 0) (fun x14 => zbr p3 0 (¬ p3 = 0) (zgd (0 ≤ (0 : Int) ∧ (0 : Int) < 4) (some (M7, M7 (zfr k p0 2) (Int.toNat 0)))) (some (M7, x14))))) (some (M0, (-1))))))))
theorem vl_X11_held_40 {κ : zC} {w : zW} (hw : zWk w)  (l0 : Nat) (l2 : Int) (l3 : Int) (g0 : ztag w.1 l0 = 12) (M0 : zM) (E : (Int) → Prop) (hX : ∀ (u4 : Int), E u4 → zB cX11_held RX11 6 (some .int) κ w (0, 0, 5) 82 [(0, rn w l0), (3, iv l3), (4, iv u4)] [] M0)  (y4 : Int) (y5 : Int) :
    zV cX11_held RX11 6 (some .int) κ w (0, 0, 5) 40 [(4, iv y4), (5, iv y5), (0, rn w l0), (2, iv l2), (3, iv l3)] [] M0 (zw2 (fb_X11_held_40 w.1 l0 l2 l3 M0) zfu y4 y5) E := by
  have hT := hw.1
  refine zv_loop2 (fun y4 y5 => [(4, iv y4), (5, iv y5), (0, rn w l0), (2, iv l2), (3, iv l3)]) (fun y4 y5 => M0) (fun y4 y5 => ?_) y4 y5
  unfold fb_X11_held_40
  refine zv_iload dX11_held_40 1 rfl ?_
  refine zv_rload_n dX11_held_42 2 rfl ?_
  refine zg_RX11_16 dX11_held_43 g0 ?_
  refine zv_iconst (z := 0) dX11_held_46 ?_
  refine zv_iald dX11_held_47 (zta_11_2 hT g0) (ztl_11_2 hT g0) (by decide) ?_
  refine zv_icmp_ge (tgt := 82) dX11_held_48 (by decide) ?_ ?_
  · exact zv_sub (L' := [(0, rn w l0), (3, iv l3), (4, iv y4)]) [2, 4, 0] rfl (zv_exit (fun h => hX _ h))
  refine zv_iload dX11_held_51 0 rfl ?_
  refine zv_rload_n dX11_held_53 2 rfl ?_
  refine zv_rload_n dX11_held_54 2 rfl ?_
  refine zg_RX11_40 dX11_held_55 g0 ?_
  refine zv_iload dX11_held_58 1 rfl ?_
  refine zv_iald dX11_held_60 (zta_11_10 hT g0) (ztl_11_10 hT g0) (by decide) ?_
  refine zv_pc (zv_callVi [iv (M0 (zfr w.1 l0 10) y5.toNat)] (c_X11_rankOf κ.2.1 hw l0 (M0 (zfr w.1 l0 10) y5.toNat) M0 g0) zmd_X11_rankOf zwI_X11_rankOf zwS_X11_rankOf zwM_RX11_480 zcd_11 g0 rfl (by decide) rfl (Nat.le_of_ble_eq_true rfl) dX11_held_61 (fun mh9 v8 h9 => ?_))
  obtain rfl := zpuE h9
  refine zv_iload_n dX11_held_64 3 rfl ?_
  refine zv_icmp_ge (tgt := 72) dX11_held_65 (by decide) ?_ ?_
  · refine zv_iconst (z := 0) dX11_held_72 ?_
    refine zv_iadd dX11_held_73 ?_
    refine zv_istore dX11_held_74 (fun x10 => [(4, iv x10), (5, iv y5), (0, rn w l0), (2, iv l2), (3, iv l3)]) (by decide) (fun _ => rfl) (fun x10 => ?_)
    refine zv_iinc dX11_held_76 1 rfl (fun x11 => [(5, iv x11), (4, iv x10), (0, rn w l0), (2, iv l2), (3, iv l3)]) (by decide) (fun _ => rfl) (fun x11 => ?_)
    refine zv_goto (tgt := 40) dX11_held_79 (by decide) ?_
    exact zv_sub (L' := [(4, iv x10), (5, iv x11), (0, rn w l0), (2, iv l2), (3, iv l3)]) [1, 0, 2, 3, 4] rfl (zv_exit (fun h => h))
  refine zv_iconst (z := 1) dX11_held_68 ?_
  refine zv_goto (tgt := 73) dX11_held_69 (by decide) ?_
  refine zv_iadd dX11_held_73 ?_
  refine zv_istore dX11_held_74 (fun x12 => [(4, iv x12), (5, iv y5), (0, rn w l0), (2, iv l2), (3, iv l3)]) (by decide) (fun _ => rfl) (fun x12 => ?_)
  refine zv_iinc dX11_held_76 1 rfl (fun x13 => [(5, iv x13), (4, iv x12), (0, rn w l0), (2, iv l2), (3, iv l3)]) (by decide) (fun _ => rfl) (fun x13 => ?_)
  refine zv_goto (tgt := 40) dX11_held_79 (by decide) ?_
  exact zv_sub (L' := [(4, iv x12), (5, iv x13), (0, rn w l0), (2, iv l2), (3, iv l3)]) [1, 0, 2, 3, 4] rfl (zv_exit (fun h => h))
theorem c_X11_held (l : Launch) {w : zW} (hw : zWk w)  (p0 : Nat) (p1 : Int) (p2 : Int) (p3 : Int) (M0 : zM) (hp0 : ztag w.1 p0 = 12) : zCn l yX11_held cX11_held 6 (some .int) (5) 1 w [rn w p0, iv p1, iv p2, iv p3] M0 (f_X11_held w.1 p0 p1 p2 p3 M0) := by
  have hT := hw.1
  refine zCn_of (own := RX11) (by decide) rfl hw (Nat.le_of_ble_eq_true rfl) [(0, rn w p0), (1, iv p1), (2, iv p2), (3, iv p3)] rfl ?_
  intro κ hl
  subst hl
  unfold f_X11_held
  refine zv_iload_n dX11_held_0 1 rfl ?_
  refine zv_pc (zv_callSi [iv p1] (c_X11_isAge κ.2.1 hw p1 M0 ) zmd_X11_isAge zwT_X11_isAge zwM_RX11_335 rfl (by decide) rfl (Nat.le_of_ble_eq_true rfl) dX11_held_1 (fun mh2 v1 h2 => ?_))
  obtain rfl := zpuE h2
  refine zv_if_eq (tgt := 27) dX11_held_4 (by decide) ?_ ?_
  · refine zv_iconst (z := (-1)) dX11_held_27 ?_
    exact zv_ret (fun h => h) (zv_iret dX11_held_28)
  refine zv_iload_n dX11_held_7 2 rfl ?_
  refine zv_iconst (z := 1) dX11_held_8 ?_
  refine zv_sipush (z := 256) dX11_held_9 (by decide) ?_
  refine zv_pc (zv_callSi [iv p2, iv 1, iv 256] (c_X11_within κ.2.1 hw p2 1 256 M0 ) zmd_X11_within zwT_X11_within zwM_RX11_183 rfl (by decide) rfl (Nat.le_of_ble_eq_true rfl) dX11_held_12 (fun mh4 v3 h4 => ?_))
  obtain rfl := zpuE h4
  refine zv_if_eq (tgt := 27) dX11_held_15 (by decide) ?_ ?_
  · refine zv_iconst (z := (-1)) dX11_held_27 ?_
    exact zv_ret (fun h => h) (zv_iret dX11_held_28)
  refine zv_iload_n dX11_held_18 3 rfl ?_
  refine zv_iconst (z := 0) dX11_held_19 ?_
  refine zv_iconst (z := 1) dX11_held_20 ?_
  refine zv_pc (zv_callSi [iv p3, iv 0, iv 1] (c_X11_within κ.2.1 hw p3 0 1 M0 ) zmd_X11_within zwT_X11_within zwM_RX11_183 rfl (by decide) rfl (Nat.le_of_ble_eq_true rfl) dX11_held_21 (fun mh6 v5 h6 => ?_))
  obtain rfl := zpuE h6
  refine zv_if_ne (tgt := 29) dX11_held_24 (by decide) ?_ ?_
  · refine zv_rload_n dX11_held_29 0 rfl ?_
    refine zv_iload_n dX11_held_30 1 rfl ?_
    refine zv_vc (zv_callVv [iv p1] (c_X11_findLives κ.2.1 hw p0 p1 M0 hp0) zmd_X11_findLives zwI_X11_findLives zwS_X11_findLives zwM_RX11_477 zcd_11 hp0 rfl (by decide) rfl (Nat.le_of_ble_eq_true rfl) dX11_held_31 (fun M7 _ _ => ?_))
    refine zv_iconst (z := 0) dX11_held_34 ?_
    refine zv_istore_p (L' := [(4, iv 0), (0, rn w p0), (1, iv p1), (2, iv p2), (3, iv p3)]) dX11_held_35 (by decide) rfl ?_
    refine zv_iconst (z := 0) dX11_held_37 ?_
    refine zv_istore_p (L' := [(5, iv 0), (4, iv 0), (0, rn w p0), (1, iv p1), (2, iv p2), (3, iv p3)]) dX11_held_38 (by decide) rfl ?_
    refine zv_join1 82 (fun x14 => [(0, rn w p0), (3, iv p3), (4, iv x14)]) (fun x14 => []) (fun x14 => M7) (zv_sub (L' := [(4, iv 0), (5, iv 0), (0, rn w p0), (2, iv p2), (3, iv p3)]) [1, 0, 2, 4, 5] rfl (vl_X11_held_40 hw p0 p2 p3 hp0 M7 _ (fun _ h => h) 0 0)) (fun x14 => ?_)
    refine zv_iload_n dX11_held_82 1 rfl ?_
    refine zv_if_ne (tgt := 91) dX11_held_83 (by decide) ?_ ?_
    · refine zv_rload_n dX11_held_91 0 rfl ?_
      refine zg_RX11_16 dX11_held_92 hp0 ?_
      refine zv_iconst (z := 0) dX11_held_95 ?_
      refine zv_iald dX11_held_96 (zta_11_2 hT hp0) (ztl_11_2 hT hp0) (by decide) ?_
      exact zv_ret (fun h => h) (zv_iret dX11_held_97)
    refine zv_iload dX11_held_86 2 rfl ?_
    refine zv_goto (tgt := 97) dX11_held_88 (by decide) ?_
    exact zv_ret (fun h => h) (zv_iret dX11_held_97)
  refine zv_iconst (z := (-1)) dX11_held_27 ?_
  exact zv_ret (fun h => h) (zv_iret dX11_held_28)
def f_X11_howHere (k : zK)  (p0 : Nat) (M0 : zM) : Option (zM × Int) :=
  zb1 (f_X11_is k p0 91256359 M0) (fun v1 => zb1 (zbr v1 0 (v1 = 0) (zb1 (f_X11_is k p0 1902829 M0) (fun v3 => zbr v3 0 (v3 = 0) (zb1 (f_X11_is k p0 2970796153 M0) (fun v5 => zbr v5 0 (v5 = 0) (some (-1)) (some (2)))) (some (1)))) (some (0))) (fun x7 => zbr x7 0 (0 ≤ x7) (zb1 (f_X11_next k p0 M0) (fun M8 => some (M8, x7))) (zb1 (f_X11_errs k p0 M0) (fun M9 => some (M9, x7)))))
theorem c_X11_howHere (l : Launch) {w : zW} (hw : zWk w)  (p0 : Nat) (M0 : zM) (hp0 : ztag w.1 p0 = 12) : zCn l yX11_howHere cX11_howHere 2 (some .int) (2) 1 w [rn w p0] M0 (f_X11_howHere w.1 p0 M0) := by
  have hT := hw.1
  refine zCn_of (own := RX11) (by decide) rfl hw (Nat.le_of_ble_eq_true rfl) [(0, rn w p0)] rfl ?_
  intro κ hl
  subst hl
  unfold f_X11_howHere
  refine zv_rload_n dX11_howHere_0 0 rfl ?_
  refine zv_ldc2 (z := 91256359) dX11_howHere_1 zwK_RX11_264 (by decide) ?_
  refine zv_pc (zv_callVi [jv 91256359] (c_X11_is κ.2.1 hw p0 91256359 M0 hp0) zmd_X11_is zwI_X11_is zwS_X11_is zwM_RX11_266 zcd_11 hp0 rfl (by decide) rfl (Nat.le_of_ble_eq_true rfl) dX11_howHere_4 (fun mh2 v1 h2 => ?_))
  obtain rfl := zpuE h2
  refine zv_join1 43 (fun x7 => [(0, rn w p0)]) (fun x7 => [iv x7]) (fun x7 => M0) ?_ (fun x7 => ?_)
  · refine zv_if_eq (tgt := 14) dX11_howHere_7 (by decide) ?_ ?_
    · refine zv_rload_n dX11_howHere_14 0 rfl ?_
      refine zv_ldc2 (z := 1902829) dX11_howHere_15 zwK_RX11_270 (by decide) ?_
      refine zv_pc (zv_callVi [jv 1902829] (c_X11_is κ.2.1 hw p0 1902829 M0 hp0) zmd_X11_is zwI_X11_is zwS_X11_is zwM_RX11_266 zcd_11 hp0 rfl (by decide) rfl (Nat.le_of_ble_eq_true rfl) dX11_howHere_18 (fun mh4 v3 h4 => ?_))
      obtain rfl := zpuE h4
      refine zv_if_eq (tgt := 28) dX11_howHere_21 (by decide) ?_ ?_
      · refine zv_rload_n dX11_howHere_28 0 rfl ?_
        refine zv_ldc2 (z := 2970796153) dX11_howHere_29 zwK_RX11_272 (by decide) ?_
        refine zv_pc (zv_callVi [jv 2970796153] (c_X11_is κ.2.1 hw p0 2970796153 M0 hp0) zmd_X11_is zwI_X11_is zwS_X11_is zwM_RX11_266 zcd_11 hp0 rfl (by decide) rfl (Nat.le_of_ble_eq_true rfl) dX11_howHere_32 (fun mh6 v5 h6 => ?_))
        obtain rfl := zpuE h6
        refine zv_if_eq (tgt := 42) dX11_howHere_35 (by decide) ?_ ?_
        · refine zv_iconst (z := (-1)) dX11_howHere_42 ?_
          exact zv_sub (L' := [(0, rn w p0)]) [0] rfl (zv_exit (fun h => h))
        refine zv_iconst (z := 2) dX11_howHere_38 ?_
        refine zv_goto (tgt := 43) dX11_howHere_39 (by decide) ?_
        exact zv_sub (L' := [(0, rn w p0)]) [0] rfl (zv_exit (fun h => h))
      refine zv_iconst (z := 1) dX11_howHere_24 ?_
      refine zv_goto (tgt := 43) dX11_howHere_25 (by decide) ?_
      exact zv_sub (L' := [(0, rn w p0)]) [0] rfl (zv_exit (fun h => h))
    refine zv_iconst (z := 0) dX11_howHere_10 ?_
    refine zv_goto (tgt := 43) dX11_howHere_11 (by decide) ?_
    exact zv_sub (L' := [(0, rn w p0)]) [0] rfl (zv_exit (fun h => h))
  refine zv_istore_np (L' := [(1, iv x7), (0, rn w p0)]) (by rfl) dX11_howHere_43 (by decide) rfl ?_
  refine zv_iload_n dX11_howHere_44 0 rfl ?_
  refine zv_if_ge (tgt := 55) dX11_howHere_45 (by decide) ?_ ?_
  · refine zv_rload_n dX11_howHere_55 1 rfl ?_
    refine zv_vc (zv_callVv [] (c_X11_next κ.2.1 hw p0 M0 hp0) zmd_X11_next zwI_X11_next zwS_X11_next zwM_RX11_233 zcd_11 hp0 rfl (by decide) rfl (Nat.le_of_ble_eq_true rfl) dX11_howHere_56 (fun M8 _ _ => ?_))
    refine zv_iload_n dX11_howHere_59 0 rfl ?_
    exact zv_ret (fun h => h) (zv_iret dX11_howHere_60)
  refine zv_rload_n dX11_howHere_48 1 rfl ?_
  refine zv_vc (zv_callVv [] (c_X11_errs κ.2.1 hw p0 M0 hp0) zmd_X11_errs zwI_X11_errs zwS_X11_errs zwM_RX11_230 zcd_11 hp0 rfl (by decide) rfl (Nat.le_of_ble_eq_true rfl) dX11_howHere_49 (fun M9 _ _ => ?_))
  refine zv_goto (tgt := 59) dX11_howHere_52 (by decide) ?_
  refine zv_iload_n dX11_howHere_59 0 rfl ?_
  exact zv_ret (fun h => h) (zv_iret dX11_howHere_60)
def f_X11_image (k : zK)  (p0 : Nat) (M0 : zM) : Option (zM × Int) :=
  zbr (M0 p0 20) 3 (¬ M0 p0 20 = 3) (zlt (zst M0 p0 20 ((M0 p0 20) + 1)) (fun M1 => zb1 (f_X11_copies k p0 0 (M1 p0 20) M1) (fun M2 => some (M2, (M2 p0 20) - 1)))) (zbd (f_X11_refuses k p0 1 M0) (fun M4 v3 => some (M4, v3)))
theorem c_X11_image (l : Launch) {w : zW} (hw : zWk w)  (p0 : Nat) (M0 : zM) (hp0 : ztag w.1 p0 = 12) : zCn l yX11_image cX11_image 1 (some .int) (1) 1 w [rn w p0] M0 (f_X11_image w.1 p0 M0) := by
  have hT := hw.1
  refine zCn_of (own := RX11) (by decide) rfl hw (Nat.le_of_ble_eq_true rfl) [(0, rn w p0)] rfl ?_
  intro κ hl
  subst hl
  unfold f_X11_image
  refine zv_rload_n dX11_image_0 0 rfl ?_
  refine zg_RX11_172 dX11_image_1 hp0 ?_
  refine zv_iconst (z := 3) dX11_image_4 ?_
  refine zv_icmp_ne (tgt := 14) dX11_image_5 (by decide) ?_ ?_
  · refine zv_rload_n dX11_image_14 0 rfl ?_
    refine zv_dup dX11_image_15 rfl ?_
    refine zg_RX11_172 dX11_image_16 hp0 ?_
    refine zv_iconst (z := 1) dX11_image_19 ?_
    refine zv_iadd dX11_image_20 ?_
    refine zp_RX11_172 dX11_image_21 hp0 (fun M1 => ?_)
    refine zv_rload_n dX11_image_24 0 rfl ?_
    refine zv_iconst (z := 0) dX11_image_25 ?_
    refine zv_rload_n dX11_image_26 0 rfl ?_
    refine zg_RX11_172 dX11_image_27 hp0 ?_
    refine zv_vc (zv_callVv [iv 0, iv (M1 p0 20)] (c_X11_copies κ.2.1 hw p0 0 (M1 p0 20) M1 hp0) zmd_X11_copies zwI_X11_copies zwS_X11_copies zwM_RX11_179 zcd_11 hp0 rfl (by decide) rfl (Nat.le_of_ble_eq_true rfl) dX11_image_30 (fun M2 _ _ => ?_))
    refine zv_rload_n dX11_image_33 0 rfl ?_
    refine zg_RX11_172 dX11_image_34 hp0 ?_
    refine zv_iconst (z := 1) dX11_image_37 ?_
    refine zv_isub dX11_image_38 ?_
    exact zv_ret (fun h => h) (zv_iret dX11_image_39)
  refine zv_rload_n dX11_image_8 0 rfl ?_
  refine zv_iconst (z := 1) dX11_image_9 ?_
  refine (zv_callVi [iv 1] (c_X11_refuses κ.2.1 hw p0 1 M0 hp0) zmd_X11_refuses zwI_X11_refuses zwS_X11_refuses zwM_RX11_175 zcd_11 hp0 rfl (by decide) rfl (Nat.le_of_ble_eq_true rfl) dX11_image_10 (fun M4 v3 _ => ?_))
  exact zv_ret (fun h => h) (zv_iret dX11_image_13)
def f_X11_isNot (k : zK)  (p0 : Nat) (M0 : zM) : Option (zM × Int) :=
  zgd (0 ≤ (0 : Int) ∧ (0 : Int) < 3) (zgd (0 ≤ (0 : Int) ∧ (0 : Int) < 3) (zlt (zst M0 (zfr k p0 0) (Int.toNat 0) ((M0 (zfr k p0 0) (Int.toNat 0)) + 1)) (fun M1 => some (M1, 0))))
theorem c_X11_isNot (l : Launch) {w : zW} (hw : zWk w)  (p0 : Nat) (M0 : zM) (hp0 : ztag w.1 p0 = 12) : zCn l yX11_isNot cX11_isNot 1 (some .boolean) (0) 1 w [rn w p0] M0 (f_X11_isNot w.1 p0 M0) := by
  have hT := hw.1
  refine zCn_of (own := RX11) (by decide) rfl hw (Nat.le_of_ble_eq_true rfl) [(0, rn w p0)] rfl ?_
  intro κ hl
  subst hl
  unfold f_X11_isNot
  refine zv_rload_n dX11_isNot_0 0 rfl ?_
  refine zg_RX11_7 dX11_isNot_1 hp0 ?_
  refine zv_iconst (z := 0) dX11_isNot_4 ?_
  refine zv_dup2 dX11_isNot_5 rfl rfl ?_
  refine zv_iald dX11_isNot_6 (zta_11_0 hT hp0) (ztl_11_0 hT hp0) (by decide) ?_
  refine zv_iconst (z := 1) dX11_isNot_7 ?_
  refine zv_iadd dX11_isNot_8 ?_
  refine zv_iast dX11_isNot_9 (zta_11_0 hT hp0) (ztl_11_0 hT hp0) (by decide) (fun M1 => ?_)
  refine zv_iconst (z := 0) dX11_isNot_10 ?_
  exact zv_ret (fun h => h) (zv_zrB (by decide) dX11_isNot_11)
def f_X11_numeral (k : zK)  (p0 : Nat) (p1 : Int) (p2 : Int) (M0 : zM) : Option (zM × Int) :=
  zlt (M0 p0 40) (fun x1 => zbr (M0 p0 42) 0 (M0 p0 42 = 0) (zsp1 (zbr (M0 p0 39) 2 (¬ M0 p0 39 = 2) (some (.inl M0)) (zbr x1 p1 (x1 < p1) (some (.inl M0)) (zbr x1 p2 (x1 ≤ p2) (zb1 (f_X11_next k p0 M0) (fun M2 => some (.inr (M2, x1)))) (some (.inl M0))))) (fun r => some r) (fun M3 => zb1 (f_X11_errs k p0 M3) (fun M4 => some (M4, 0)))) (some (M0, 0)))
theorem c_X11_numeral (l : Launch) {w : zW} (hw : zWk w)  (p0 : Nat) (p1 : Int) (p2 : Int) (M0 : zM) (hp0 : ztag w.1 p0 = 12) : zCn l yX11_numeral cX11_numeral 4 (some .int) (2) 1 w [rn w p0, iv p1, iv p2] M0 (f_X11_numeral w.1 p0 p1 p2 M0) := by
  have hT := hw.1
  refine zCn_of (own := RX11) (by decide) rfl hw (Nat.le_of_ble_eq_true rfl) [(0, rn w p0), (1, iv p1), (2, iv p2)] rfl ?_
  intro κ hl
  subst hl
  unfold f_X11_numeral
  refine zv_rload_n dX11_numeral_0 0 rfl ?_
  refine zg_RX11_217 dX11_numeral_1 hp0 ?_
  refine zv_istore_n (i := 3) (by rfl) dX11_numeral_4 (fun x1 => [(3, iv x1), (0, rn w p0), (1, iv p1), (2, iv p2)]) (by decide) (fun _ => rfl) (fun x1 => ?_)
  refine zv_rload_n dX11_numeral_5 1 rfl ?_
  refine zg_RX11_226 dX11_numeral_6 hp0 ?_
  refine zv_if_eq (tgt := 14) dX11_numeral_9 (by decide) ?_ ?_
  · refine zv_rload_n dX11_numeral_14 1 rfl ?_
    refine zg_RX11_220 dX11_numeral_15 hp0 ?_
    refine zv_iconst (z := 2) dX11_numeral_18 ?_
    refine zv_joinS1 (fun r => r) 32 (fun M3 => [(0, rn w p0)]) (fun M3 => []) (fun M3 => M3) ?_ (fun M3 => ?_)
    · refine zv_icmp_ne (tgt := 32) dX11_numeral_19 (by decide) ?_ ?_
      · exact zv_sub (L' := [(0, rn w p0)]) [1] rfl (zv_exit (fun h => h))
      refine zv_iload_n dX11_numeral_22 0 rfl ?_
      refine zv_iload_n dX11_numeral_23 2 rfl ?_
      refine zv_icmp_lt (tgt := 32) dX11_numeral_24 (by decide) ?_ ?_
      · exact zv_sub (L' := [(0, rn w p0)]) [1] rfl (zv_exit (fun h => h))
      refine zv_iload_n dX11_numeral_27 0 rfl ?_
      refine zv_iload_n dX11_numeral_28 3 rfl ?_
      refine zv_icmp_le (tgt := 38) dX11_numeral_29 (by decide) ?_ ?_
      · refine zv_rload_n dX11_numeral_38 1 rfl ?_
        refine zv_vc (zv_callVv [] (c_X11_next κ.2.1 hw p0 M0 hp0) zmd_X11_next zwI_X11_next zwS_X11_next zwM_RX11_233 zcd_11 hp0 rfl (by decide) rfl (Nat.le_of_ble_eq_true rfl) dX11_numeral_39 (fun M2 _ _ => ?_))
        refine zv_iload_n dX11_numeral_42 0 rfl ?_
        exact zv_ret (fun h => h) (zv_iret dX11_numeral_43)
      exact zv_sub (L' := [(0, rn w p0)]) [1] rfl (zv_exit (fun h => h))
    refine zv_rload_n dX11_numeral_32 0 rfl ?_
    refine zv_vc (zv_callVv [] (c_X11_errs κ.2.1 hw p0 M3 hp0) zmd_X11_errs zwI_X11_errs zwS_X11_errs zwM_RX11_230 zcd_11 hp0 rfl (by decide) rfl (Nat.le_of_ble_eq_true rfl) dX11_numeral_33 (fun M4 _ _ => ?_))
    refine zv_iconst (z := 0) dX11_numeral_36 ?_
    exact zv_ret (fun h => h) (zv_iret dX11_numeral_37)
  refine zv_iconst (z := 0) dX11_numeral_12 ?_
  exact zv_ret (fun h => h) (zv_iret dX11_numeral_13)
def f_X11_wordHere (k : zK)  (p0 : Nat) (M0 : zM) : Option Int :=
  zbr (M0 p0 42) 0 (¬ M0 p0 42 = 0) (some (-1)) (zbr (M0 p0 39) 1 (M0 p0 39 = 1) (zbl (M0 p0 41) 24 (¬ M0 p0 41 = 24) (zbl (M0 p0 41) 25 (¬ M0 p0 41 = 25) (zbl (M0 p0 41) 923 (¬ M0 p0 41 = 923) (zbl (M0 p0 41) 117630947 (¬ M0 p0 41 = 117630947) (zbl (M0 p0 41) 9759276 (¬ M0 p0 41 = 9759276) (zbl (M0 p0 41) 1890830 (¬ M0 p0 41 = 1890830) (zbl (M0 p0 41) 459652 (¬ M0 p0 41 = 459652) (some (-1)) (some 6)) (some 5)) (some 4)) (some 3)) (some 2)) (some 1)) (some 0)) (some (-1)))
set_option maxRecDepth 20000 in
theorem c_X11_wordHere (l : Launch) {w : zW} (hw : zWk w)  (p0 : Nat) (M0 : zM) (hp0 : ztag w.1 p0 = 12) : zCn l yX11_wordHere cX11_wordHere 1 (some .int) (0) 1 w [rn w p0] M0 ((f_X11_wordHere w.1 p0 M0).map fun v => (M0, v)) := by
  have hT := hw.1
  refine zCn_ofP (own := RX11) (by decide) rfl hw (Nat.le_of_ble_eq_true rfl) [(0, rn w p0)] rfl ?_
  intro κ hl
  subst hl
  unfold f_X11_wordHere
  refine zv_rload_n dX11_wordHere_0 0 rfl ?_
  refine zg_RX11_226 dX11_wordHere_1 hp0 ?_
  refine zv_if_ne (tgt := 15) dX11_wordHere_4 (by decide) ?_ ?_
  · refine zv_iconst (z := (-1)) dX11_wordHere_15 ?_
    exact zv_ret (fun h => h) (zv_iret dX11_wordHere_16)
  refine zv_rload_n dX11_wordHere_7 0 rfl ?_
  refine zg_RX11_220 dX11_wordHere_8 hp0 ?_
  refine zv_iconst (z := 1) dX11_wordHere_11 ?_
  refine zv_icmp_eq (tgt := 17) dX11_wordHere_12 (by decide) ?_ ?_
  · refine zv_rload_n dX11_wordHere_17 0 rfl ?_
    refine zg_RX11_213 dX11_wordHere_18 hp0 ?_
    refine zv_ldc2 (z := 24) dX11_wordHere_21 zwK_RX11_250 (by decide) ?_
    refine zv_lcmp_ne (tgt := 30) dX11_wordHere_24 dX11_wordHere_25 (by decide) ?_ ?_
    · refine zv_rload_n dX11_wordHere_30 0 rfl ?_
      refine zg_RX11_213 dX11_wordHere_31 hp0 ?_
      refine zv_ldc2 (z := 25) dX11_wordHere_34 zwK_RX11_252 (by decide) ?_
      refine zv_lcmp_ne (tgt := 43) dX11_wordHere_37 dX11_wordHere_38 (by decide) ?_ ?_
      · refine zv_rload_n dX11_wordHere_43 0 rfl ?_
        refine zg_RX11_213 dX11_wordHere_44 hp0 ?_
        refine zv_ldc2 (z := 923) dX11_wordHere_47 zwK_RX11_254 (by decide) ?_
        refine zv_lcmp_ne (tgt := 56) dX11_wordHere_50 dX11_wordHere_51 (by decide) ?_ ?_
        · refine zv_rload_n dX11_wordHere_56 0 rfl ?_
          refine zg_RX11_213 dX11_wordHere_57 hp0 ?_
          refine zv_ldc2 (z := 117630947) dX11_wordHere_60 zwK_RX11_256 (by decide) ?_
          refine zv_lcmp_ne (tgt := 69) dX11_wordHere_63 dX11_wordHere_64 (by decide) ?_ ?_
          · refine zv_rload_n dX11_wordHere_69 0 rfl ?_
            refine zg_RX11_213 dX11_wordHere_70 hp0 ?_
            refine zv_ldc2 (z := 9759276) dX11_wordHere_73 zwK_RX11_258 (by decide) ?_
            refine zv_lcmp_ne (tgt := 82) dX11_wordHere_76 dX11_wordHere_77 (by decide) ?_ ?_
            · refine zv_rload_n dX11_wordHere_82 0 rfl ?_
              refine zg_RX11_213 dX11_wordHere_83 hp0 ?_
              refine zv_ldc2 (z := 1890830) dX11_wordHere_86 zwK_RX11_260 (by decide) ?_
              refine zv_lcmp_ne (tgt := 95) dX11_wordHere_89 dX11_wordHere_90 (by decide) ?_ ?_
              · refine zv_rload_n dX11_wordHere_95 0 rfl ?_
                refine zg_RX11_213 dX11_wordHere_96 hp0 ?_
                refine zv_ldc2 (z := 459652) dX11_wordHere_99 zwK_RX11_262 (by decide) ?_
                refine zv_lcmp_ne (tgt := 109) dX11_wordHere_102 dX11_wordHere_103 (by decide) ?_ ?_
                · refine zv_iconst (z := (-1)) dX11_wordHere_109 ?_
                  exact zv_ret (fun h => h) (zv_iret dX11_wordHere_110)
                refine zv_bipush (z := 6) dX11_wordHere_106 (by decide) ?_
                exact zv_ret (fun h => h) (zv_iret dX11_wordHere_108)
              refine zv_iconst (z := 5) dX11_wordHere_93 ?_
              exact zv_ret (fun h => h) (zv_iret dX11_wordHere_94)
            refine zv_iconst (z := 4) dX11_wordHere_80 ?_
            exact zv_ret (fun h => h) (zv_iret dX11_wordHere_81)
          refine zv_iconst (z := 3) dX11_wordHere_67 ?_
          exact zv_ret (fun h => h) (zv_iret dX11_wordHere_68)
        refine zv_iconst (z := 2) dX11_wordHere_54 ?_
        exact zv_ret (fun h => h) (zv_iret dX11_wordHere_55)
      refine zv_iconst (z := 1) dX11_wordHere_41 ?_
      exact zv_ret (fun h => h) (zv_iret dX11_wordHere_42)
    refine zv_iconst (z := 0) dX11_wordHere_28 ?_
    exact zv_ret (fun h => h) (zv_iret dX11_wordHere_29)
  refine zv_iconst (z := (-1)) dX11_wordHere_15 ?_
  exact zv_ret (fun h => h) (zv_iret dX11_wordHere_16)
def f_X11_readTest (k : zK)  (p0 : Nat) (M0 : zM) : Option zM :=
  zb1 (f_X11_wordHere k p0 M0) (fun v1 => zbr v1 0 (0 ≤ v1) (zb1 (f_X11_next k p0 M0) (fun M3 => zlt (M3 p0 39) (fun x4 => zsp1 (zbr x4 60 (x4 = 60) (some (.inl M3)) (zbr x4 62 (x4 = 62) (some (.inl M3)) (zbr x4 61 (x4 = 61) (some (.inl M3)) (zb1 (f_X11_errs k p0 M3) (fun M5 => some (.inr M5)))))) (fun r => some r) (fun M6 => zb1 (f_X11_next k p0 M6) (fun M7 => zbd (f_X11_numeral k p0 0 9999 M7) (fun M9 v8 => zb1 (f_X11_step k p0 0 v1 x4 v8 M9) (fun M10 => some M10))))))) (zb1 (f_X11_errs k p0 M0) (fun M11 => some M11)))
theorem c_X11_readTest (l : Launch) {w : zW} (hw : zWk w)  (p0 : Nat) (M0 : zM) (hp0 : ztag w.1 p0 = 12) : zCn l yX11_readTest cX11_readTest 4 none (3) 0 w [rn w p0] M0 ((f_X11_readTest w.1 p0 M0).map fun m => (m, (0 : Int))) := by
  have hT := hw.1
  refine zCn_ofV (own := RX11) (by decide) rfl hw (Nat.le_of_ble_eq_true rfl) [(0, rn w p0)] rfl ?_
  intro κ hl
  subst hl
  unfold f_X11_readTest
  refine zv_rload_n dX11_readTest_0 0 rfl ?_
  refine zv_pc (zv_callVi [] (c_X11_wordHere κ.2.1 hw p0 M0 hp0) zmd_X11_wordHere zwI_X11_wordHere zwS_X11_wordHere zwM_RX11_277 zcd_11 hp0 rfl (by decide) rfl (Nat.le_of_ble_eq_true rfl) dX11_readTest_1 (fun mh2 v1 h2 => ?_))
  obtain rfl := zpuE h2
  refine zv_istore_np (L' := [(1, iv v1), (0, rn w p0)]) (by rfl) dX11_readTest_4 (by decide) rfl ?_
  refine zv_iload_n dX11_readTest_5 0 rfl ?_
  refine zv_if_ge (tgt := 14) dX11_readTest_6 (by decide) ?_ ?_
  · refine zv_rload_n dX11_readTest_14 1 rfl ?_
    refine zv_vc (zv_callVv [] (c_X11_next κ.2.1 hw p0 M0 hp0) zmd_X11_next zwI_X11_next zwS_X11_next zwM_RX11_233 zcd_11 hp0 rfl (by decide) rfl (Nat.le_of_ble_eq_true rfl) dX11_readTest_15 (fun M3 _ _ => ?_))
    refine zv_rload_n dX11_readTest_18 1 rfl ?_
    refine zg_RX11_220 dX11_readTest_19 hp0 ?_
    refine zv_istore_n (i := 2) (by rfl) dX11_readTest_22 (fun x4 => [(2, iv x4), (1, iv v1), (0, rn w p0)]) (by decide) (fun _ => rfl) (fun x4 => ?_)
    refine zv_iload_n dX11_readTest_23 0 rfl ?_
    refine zv_bipush (z := 60) dX11_readTest_24 (by decide) ?_
    refine zv_joinS1 (fun r => r) 46 (fun M6 => [(2, iv x4), (1, iv v1), (0, rn w p0)]) (fun M6 => []) (fun M6 => M6) ?_ (fun M6 => ?_)
    · refine zv_icmp_eq (tgt := 46) dX11_readTest_26 (by decide) ?_ ?_
      · exact zv_sub (L' := [(2, iv x4), (1, iv v1), (0, rn w p0)]) [0, 1, 2] rfl (zv_exit (fun h => h))
      refine zv_iload_n dX11_readTest_29 0 rfl ?_
      refine zv_bipush (z := 62) dX11_readTest_30 (by decide) ?_
      refine zv_icmp_eq (tgt := 46) dX11_readTest_32 (by decide) ?_ ?_
      · exact zv_sub (L' := [(2, iv x4), (1, iv v1), (0, rn w p0)]) [0, 1, 2] rfl (zv_exit (fun h => h))
      refine zv_iload_n dX11_readTest_35 0 rfl ?_
      refine zv_bipush (z := 61) dX11_readTest_36 (by decide) ?_
      refine zv_icmp_eq (tgt := 46) dX11_readTest_38 (by decide) ?_ ?_
      · exact zv_sub (L' := [(2, iv x4), (1, iv v1), (0, rn w p0)]) [0, 1, 2] rfl (zv_exit (fun h => h))
      refine zv_rload_n dX11_readTest_41 2 rfl ?_
      refine zv_vc (zv_callVv [] (c_X11_errs κ.2.1 hw p0 M3 hp0) zmd_X11_errs zwI_X11_errs zwS_X11_errs zwM_RX11_230 zcd_11 hp0 rfl (by decide) rfl (Nat.le_of_ble_eq_true rfl) dX11_readTest_42 (fun M5 _ _ => ?_))
      exact zv_ret (fun h => h) (zv_vret (v := 0) dX11_readTest_45)
    refine zv_rload_n dX11_readTest_46 2 rfl ?_
    refine zv_vc (zv_callVv [] (c_X11_next κ.2.1 hw p0 M6 hp0) zmd_X11_next zwI_X11_next zwS_X11_next zwM_RX11_233 zcd_11 hp0 rfl (by decide) rfl (Nat.le_of_ble_eq_true rfl) dX11_readTest_47 (fun M7 _ _ => ?_))
    refine zv_rload_n dX11_readTest_50 2 rfl ?_
    refine zv_iconst (z := 0) dX11_readTest_51 ?_
    refine zv_sipush (z := 9999) dX11_readTest_52 (by decide) ?_
    refine (zv_callVi [iv 0, iv 9999] (c_X11_numeral κ.2.1 hw p0 0 9999 M7 hp0) zmd_X11_numeral zwI_X11_numeral zwS_X11_numeral zwM_RX11_280 zcd_11 hp0 rfl (by decide) rfl (Nat.le_of_ble_eq_true rfl) dX11_readTest_55 (fun M9 v8 _ => ?_))
    refine zv_istore_np (L' := [(3, iv v8), (2, iv x4), (1, iv v1), (0, rn w p0)]) (by rfl) dX11_readTest_58 (by decide) rfl ?_
    refine zv_rload_n dX11_readTest_59 3 rfl ?_
    refine zv_iconst (z := 0) dX11_readTest_60 ?_
    refine zv_iload_n dX11_readTest_61 2 rfl ?_
    refine zv_iload_n dX11_readTest_62 1 rfl ?_
    refine zv_iload_n dX11_readTest_63 0 rfl ?_
    refine zv_vc (zv_callVv [iv 0, iv v1, iv x4, iv v8] (c_X11_step κ.2.1 hw p0 0 v1 x4 v8 M9 hp0) zmd_X11_step zwI_X11_step zwS_X11_step zwM_RX11_284 zcd_11 hp0 rfl (by decide) rfl (Nat.le_of_ble_eq_true rfl) dX11_readTest_64 (fun M10 _ _ => ?_))
    exact zv_ret (fun h => h) (zv_vret (v := 0) dX11_readTest_67)
  refine zv_rload_n dX11_readTest_9 1 rfl ?_
  refine zv_vc (zv_callVv [] (c_X11_errs κ.2.1 hw p0 M0 hp0) zmd_X11_errs zwI_X11_errs zwS_X11_errs zwM_RX11_230 zcd_11 hp0 rfl (by decide) rfl (Nat.le_of_ble_eq_true rfl) dX11_readTest_10 (fun M11 _ _ => ?_))
  exact zv_ret (fun h => h) (zv_vret (v := 0) dX11_readTest_13)

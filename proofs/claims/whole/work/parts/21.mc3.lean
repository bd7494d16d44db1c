def f_X6_takeNumber (k : zK)  (p0 : Nat) (p1 : Int) (p2 : Int) (M0 : zM) : Option (zM × Int) :=
  zbr (M0 p0 5) 2 (¬ M0 p0 5 = 2) (some (M0, 0)) (zbr (M0 p0 6) p1 (M0 p0 6 < p1) (some (M0, 0)) (zbr (M0 p0 6) p2 (M0 p0 6 ≤ p2) (zlt (zst M0 p0 7 (M0 p0 6)) (fun M1 => zb1 (f_X6_step k p0 M1) (fun M2 => some (M2, 1)))) (some (M0, 0))))
theorem c_X6_takeNumber (l : Launch) {w : zW} (hw : zWk w)  (p0 : Nat) (p1 : Int) (p2 : Int) (M0 : zM) (hp0 : ztag w.1 p0 = 7) : zCn l yX6_takeNumber cX6_takeNumber 3 (some .boolean) (1) 1 w [rn w p0, iv p1, iv p2] M0 (f_X6_takeNumber w.1 p0 p1 p2 M0) := by
  have hT := hw.1
  refine zCn_of (own := RX6) (by decide) rfl hw (Nat.le_of_ble_eq_true rfl) [(0, rn w p0), (1, iv p1), (2, iv p2)] rfl ?_
  intro κ hl
  subst hl
  unfold f_X6_takeNumber
  refine zv_rload_n dX6_takeNumber_0 0 rfl ?_
  refine zg_RX6_28 dX6_takeNumber_1 hp0 ?_
  refine zv_iconst (z := 2) dX6_takeNumber_4 ?_
  refine zv_icmp_ne (tgt := 24) dX6_takeNumber_5 (by decide) ?_ ?_
  · refine zv_iconst (z := 0) dX6_takeNumber_24 ?_
    exact zv_ret (fun h => h) (zv_zrB (by decide) dX6_takeNumber_25)
  refine zv_rload_n dX6_takeNumber_8 0 rfl ?_
  refine zg_RX6_31 dX6_takeNumber_9 hp0 ?_
  refine zv_iload_n dX6_takeNumber_12 1 rfl ?_
  refine zv_icmp_lt (tgt := 24) dX6_takeNumber_13 (by decide) ?_ ?_
  · refine zv_iconst (z := 0) dX6_takeNumber_24 ?_
    exact zv_ret (fun h => h) (zv_zrB (by decide) dX6_takeNumber_25)
  refine zv_rload_n dX6_takeNumber_16 0 rfl ?_
  refine zg_RX6_31 dX6_takeNumber_17 hp0 ?_
  refine zv_iload_n dX6_takeNumber_20 2 rfl ?_
  refine zv_icmp_le (tgt := 26) dX6_takeNumber_21 (by decide) ?_ ?_
  · refine zv_rload_n dX6_takeNumber_26 0 rfl ?_
    refine zv_rload_n dX6_takeNumber_27 0 rfl ?_
    refine zg_RX6_31 dX6_takeNumber_28 hp0 ?_
    refine zp_RX6_34 dX6_takeNumber_31 hp0 (fun M1 => ?_)
    refine zv_rload_n dX6_takeNumber_34 0 rfl ?_
    refine zv_vc (zv_callVv [] (c_X6_step κ.2.1 hw p0 M1 hp0) zmd_X6_step zwI_X6_step zwS_X6_step zwM_RX6_42 zcd_6 hp0 rfl (by decide) rfl (Nat.le_of_ble_eq_true rfl) dX6_takeNumber_35 (fun M2 _ _ => ?_))
    refine zv_iconst (z := 1) dX6_takeNumber_38 ?_
    exact zv_ret (fun h => h) (zv_zrB (by decide) dX6_takeNumber_39)
  refine zv_iconst (z := 0) dX6_takeNumber_24 ?_
  exact zv_ret (fun h => h) (zv_zrB (by decide) dX6_takeNumber_25)
def f_X6_takeSign (k : zK)  (p0 : Nat) (p1 : Int) (M0 : zM) : Option (zM × Int) :=
  zb1 (f_X6_isSign k p0 p1 M0) (fun v1 => zbr v1 0 (¬ v1 = 0) (zb1 (f_X6_step k p0 M0) (fun M3 => some (M3, 1))) (some (M0, 0)))
theorem c_X6_takeSign (l : Launch) {w : zW} (hw : zWk w)  (p0 : Nat) (p1 : Int) (M0 : zM) (hp0 : ztag w.1 p0 = 7) : zCn l yX6_takeSign cX6_takeSign 2 (some .boolean) (1) 1 w [rn w p0, iv p1] M0 (f_X6_takeSign w.1 p0 p1 M0) := by
  have hT := hw.1
  refine zCn_of (own := RX6) (by decide) rfl hw (Nat.le_of_ble_eq_true rfl) [(0, rn w p0), (1, iv p1)] rfl ?_
  intro κ hl
  subst hl
  unfold f_X6_takeSign
  refine zv_rload_n dX6_takeSign_0 0 rfl ?_
  refine zv_iload_n dX6_takeSign_1 1 rfl ?_
  refine zv_pc (zv_callVi [iv p1] (c_X6_isSign κ.2.1 hw p0 p1 M0 hp0) zmd_X6_isSign zwI_X6_isSign zwS_X6_isSign zwM_RX6_123 zcd_6 hp0 rfl (by decide) rfl (Nat.le_of_ble_eq_true rfl) dX6_takeSign_2 (fun mh2 v1 h2 => ?_))
  obtain rfl := zpuE h2
  refine zv_if_ne (tgt := 10) dX6_takeSign_5 (by decide) ?_ ?_
  · refine zv_rload_n dX6_takeSign_10 0 rfl ?_
    refine zv_vc (zv_callVv [] (c_X6_step κ.2.1 hw p0 M0 hp0) zmd_X6_step zwI_X6_step zwS_X6_step zwM_RX6_42 zcd_6 hp0 rfl (by decide) rfl (Nat.le_of_ble_eq_true rfl) dX6_takeSign_11 (fun M3 _ _ => ?_))
    refine zv_iconst (z := 1) dX6_takeSign_14 ?_
    exact zv_ret (fun h => h) (zv_zrB (by decide) dX6_takeSign_15)
  refine zv_iconst (z := 0) dX6_takeSign_8 ?_
  exact zv_ret (fun h => h) (zv_zrB (by decide) dX6_takeSign_9)
def fb_X6_readAny_13 (k : zK) (rc_X6_readAny : Nat → Int → Nat → zM → Option (zM × Int)) (rc_X6_readAll : Nat → Int → Nat → zM → Option (zM × Int)) (rc_X6_readOne : Nat → Int → Nat → zM → Option (zM × Int)) (l0 : Nat) (l1 : Int) (l2 : Nat) (y3 : Int) (M0 : zM) : Option ((Int × zM) ⊕ ((zM) ⊕ (zM × Int))) :=
  zbr y3 700 (700 ≤ y3) (some (.inr (.inl M0))) (zb1 (f_X6_isWord k l0 2 M0) (fun v3 => zbr v3 0 (v3 = 0) (some (.inr (.inl M0))) (zb1 (f_X6_step k l0 M0) (fun M5 => zbd (rc_X6_readAll l0 l1 l2 M5) (fun M7 v6 => zbr v6 0 (¬ v6 = 0) (zb1 (f_X3_putStep k l2 5 M7) (fun M8 => zlt (y3 + 1) (fun x9 => some (.inl (x9, M8))))) (some (.inr (.inr (M7, 0)))))))))
def fo_X6_readAny (k : zK) (rc_X6_readAny : Nat → Int → Nat → zM → Option (zM × Int)) (rc_X6_readAll : Nat → Int → Nat → zM → Option (zM × Int)) (rc_X6_readOne : Nat → Int → Nat → zM → Option (zM × Int)) (p0 : Nat) (p1 : Int) (p2 : Nat) (M0 : zM) : Option (zM × Int) :=
  zbd (rc_X6_readAll p0 p1 p2 M0) (fun M2 v1 => zbr v1 0 (¬ v1 = 0) (zsp1 (zw2 (fb_X6_readAny_13 k rc_X6_readAny rc_X6_readAll rc_X6_readOne p0 p1 p2) zfu 0 M2) (fun r => some (r)) (fun M10 => some (M10, 1))) (some (M2, 0)))
theorem vl_X6_readAny_13 {κ : zC} {w : zW} (hw : zWk w) (dd : Nat) (rc_X6_readAny : Nat → Int → Nat → zM → Option (zM × Int)) (rc_X6_readAll : Nat → Int → Nat → zM → Option (zM × Int)) (rc_X6_readOne : Nat → Int → Nat → zM → Option (zM × Int)) (hrc_X6_readAny : ∀ (p0 : Nat) (p1 : Int) (p2 : Nat) (M0 : zM), ztag w.1 p0 = 7 → ztag w.1 p2 = 4 → zCn κ.2.1 yX6_readAny cX6_readAny 4 (some .boolean) (5 + dd) 1 w [rn w p0, iv p1, rn w p2] M0 (rc_X6_readAny p0 p1 p2 M0)) (hrc_X6_readAll : ∀ (p0 : Nat) (p1 : Int) (p2 : Nat) (M0 : zM), ztag w.1 p0 = 7 → ztag w.1 p2 = 4 → zCn κ.2.1 yX6_readAll cX6_readAll 4 (some .boolean) (5 + dd) 1 w [rn w p0, iv p1, rn w p2] M0 (rc_X6_readAll p0 p1 p2 M0)) (hrc_X6_readOne : ∀ (p0 : Nat) (p1 : Int) (p2 : Nat) (M0 : zM), ztag w.1 p0 = 7 → ztag w.1 p2 = 4 → zCn κ.2.1 yX6_readOne cX6_readOne 6 (some .boolean) (5 + dd) 1 w [rn w p0, iv p1, rn w p2] M0 (rc_X6_readOne p0 p1 p2 M0)) (l0 : Nat) (l1 : Int) (l2 : Nat) (g0 : ztag w.1 l0 = 7) (g2 : ztag w.1 l2 = 4)  (E : ((zM) ⊕ (zM × Int)) → Prop) (hX : ∀  (M1 : zM), E (.inl M1) → zB cX6_readAny RX6 4 (some .boolean) κ w (0, 0, 5 + dd + 1) 55 [] [] M1) (hR : ∀ r, E (.inr r) → zRt κ w (0, 0, 5 + dd + 1) 1 r) (y3 : Int) (M0 : zM) :
    zV cX6_readAny RX6 4 (some .boolean) κ w (0, 0, 5 + dd + 1) 13 [(3, iv y3), (0, rn w l0), (1, iv l1), (2, rn w l2)] [] M0 (zw2 (fb_X6_readAny_13 w.1 rc_X6_readAny rc_X6_readAll rc_X6_readOne l0 l1 l2) zfu y3 M0) E := by
  have hT := hw.1
  refine zv_loop2 (fun y3 M0 => [(3, iv y3), (0, rn w l0), (1, iv l1), (2, rn w l2)]) (fun y3 M0 => M0) (fun y3 M0 => ?_) y3 M0
  unfold fb_X6_readAny_13
  refine zv_iload_n dX6_readAny_13 0 rfl ?_
  refine zv_sipush (z := 700) dX6_readAny_14 (by decide) ?_
  refine zv_icmp_ge (tgt := 55) dX6_readAny_17 (by decide) ?_ ?_
  · exact zv_sub (L' := []) [] rfl (zv_exit (fun h => hX _ h))
  refine zv_rload_n dX6_readAny_20 1 rfl ?_
  refine zv_ldcs (j := 2) rfl zws_2 dX6_readAny_21 ?_
  refine zv_pc (zv_callVi [rn w (1000000 + 2)] (c_X6_isWord κ.2.1 hw l0 2 M0 g0 (by decide)) zmd_X6_isWord zwI_X6_isWord zwS_X6_isWord zwM_RX6_79 zcd_6 g0 rfl (by show 4 + 1 ≤ 5 + dd + 1; omega) rfl (Nat.le_of_ble_eq_true rfl) dX6_readAny_23 (fun mh4 v3 h4 => ?_))
  obtain rfl := zpuE h4
  refine zv_if_eq (tgt := 55) dX6_readAny_26 (by decide) ?_ ?_
  · exact zv_sub (L' := []) [] rfl (zv_exit (fun h => hX _ h))
  refine zv_rload_n dX6_readAny_29 1 rfl ?_
  refine zv_vc (zv_callVv [] (c_X6_step κ.2.1 hw l0 M0 g0) zmd_X6_step zwI_X6_step zwS_X6_step zwM_RX6_42 zcd_6 g0 rfl (by show 0 + 1 ≤ 5 + dd + 1; omega) rfl (Nat.le_of_ble_eq_true rfl) dX6_readAny_30 (fun M5 _ _ => ?_))
  refine zv_rload_n dX6_readAny_33 1 rfl ?_
  refine zv_iload_n dX6_readAny_34 2 rfl ?_
  refine zv_rload_n dX6_readAny_35 3 rfl ?_
  refine (zv_callVi [iv l1, rn w l2] (hrc_X6_readAll l0 l1 l2 M5 g0 g2) zmd_X6_readAll zwI_X6_readAll zwS_X6_readAll zwM_RX6_107 zcd_6 g0 rfl (by show 5 + dd + 1 ≤ 5 + dd + 1; omega) rfl (Nat.le_of_ble_eq_true rfl) dX6_readAny_36 (fun M7 v6 _ => ?_))
  refine zv_if_ne (tgt := 44) dX6_readAny_39 (by decide) ?_ ?_
  · refine zv_rload_n dX6_readAny_44 3 rfl ?_
    refine zv_iconst (z := 5) dX6_readAny_45 ?_
    refine zv_vc (zv_callVv [iv 5] (c_X3_putStep κ.2.1 hw l2 5 M7 g2) zmd_X3_putStep zwI_X3_putStep zwS_X3_putStep zwM_RX6_112 zcd_3 g2 rfl (by show 0 + 1 ≤ 5 + dd + 1; omega) rfl (Nat.le_of_ble_eq_true rfl) dX6_readAny_46 (fun M8 _ _ => ?_))
    refine zv_iinc dX6_readAny_49 0 rfl (fun x9 => [(3, iv x9), (0, rn w l0), (1, iv l1), (2, rn w l2)]) (by decide) (fun _ => rfl) (fun x9 => ?_)
    refine zv_goto (tgt := 13) dX6_readAny_52 (by decide) ?_
    exact zv_sub (L' := [(3, iv x9), (0, rn w l0), (1, iv l1), (2, rn w l2)]) [0, 1, 2, 3] rfl (zv_exit (fun h => h))
  refine zv_iconst (z := 0) dX6_readAny_42 ?_
  exact zv_ret (fun h => hR _ h) (zv_zrB (by decide) dX6_readAny_43)
theorem co_X6_readAny (l : Launch) {w : zW} (hw : zWk w) (dd : Nat) (rc_X6_readAny : Nat → Int → Nat → zM → Option (zM × Int)) (rc_X6_readAll : Nat → Int → Nat → zM → Option (zM × Int)) (rc_X6_readOne : Nat → Int → Nat → zM → Option (zM × Int)) (hrc_X6_readAny : ∀ (p0 : Nat) (p1 : Int) (p2 : Nat) (M0 : zM), ztag w.1 p0 = 7 → ztag w.1 p2 = 4 → zCn l yX6_readAny cX6_readAny 4 (some .boolean) (5 + dd) 1 w [rn w p0, iv p1, rn w p2] M0 (rc_X6_readAny p0 p1 p2 M0)) (hrc_X6_readAll : ∀ (p0 : Nat) (p1 : Int) (p2 : Nat) (M0 : zM), ztag w.1 p0 = 7 → ztag w.1 p2 = 4 → zCn l yX6_readAll cX6_readAll 4 (some .boolean) (5 + dd) 1 w [rn w p0, iv p1, rn w p2] M0 (rc_X6_readAll p0 p1 p2 M0)) (hrc_X6_readOne : ∀ (p0 : Nat) (p1 : Int) (p2 : Nat) (M0 : zM), ztag w.1 p0 = 7 → ztag w.1 p2 = 4 → zCn l yX6_readOne cX6_readOne 6 (some .boolean) (5 + dd) 1 w [rn w p0, iv p1, rn w p2] M0 (rc_X6_readOne p0 p1 p2 M0)) (p0 : Nat) (p1 : Int) (p2 : Nat) (M0 : zM) (hp0 : ztag w.1 p0 = 7) (hp2 : ztag w.1 p2 = 4) : zCn l yX6_readAny cX6_readAny 4 (some .boolean) (5 + dd + 1) 1 w [rn w p0, iv p1, rn w p2] M0 (fo_X6_readAny w.1 rc_X6_readAny rc_X6_readAll rc_X6_readOne p0 p1 p2 M0) := by
  have hT := hw.1
  refine zCn_of (own := RX6) (by decide) rfl hw (Nat.le_of_ble_eq_true rfl) [(0, rn w p0), (1, iv p1), (2, rn w p2)] rfl ?_
  intro κ hl
  subst hl
  unfold fo_X6_readAny
  refine zv_rload_n dX6_readAny_0 0 rfl ?_
  refine zv_iload_n dX6_readAny_1 1 rfl ?_
  refine zv_rload_n dX6_readAny_2 2 rfl ?_
  refine (zv_callVi [iv p1, rn w p2] (hrc_X6_readAll p0 p1 p2 M0 hp0 hp2) zmd_X6_readAll zwI_X6_readAll zwS_X6_readAll zwM_RX6_107 zcd_6 hp0 rfl (by show 5 + dd + 1 ≤ 5 + dd + 1; omega) rfl (Nat.le_of_ble_eq_true rfl) dX6_readAny_3 (fun M2 v1 _ => ?_))
  refine zv_if_ne (tgt := 11) dX6_readAny_6 (by decide) ?_ ?_
  · refine zv_iconst (z := 0) dX6_readAny_11 ?_
    refine zv_istore_np (L' := [(3, iv 0), (0, rn w p0), (1, iv p1), (2, rn w p2)]) (by rfl) dX6_readAny_12 (by decide) rfl ?_
    refine zv_joinS1 (fun r => r) 55 (fun M10 => []) (fun M10 => []) (fun M10 => M10) (zv_sub (L' := [(3, iv 0), (0, rn w p0), (1, iv p1), (2, rn w p2)]) [0, 1, 2, 3] rfl (vl_X6_readAny_13 hw dd rc_X6_readAny rc_X6_readAll rc_X6_readOne hrc_X6_readAny hrc_X6_readAll hrc_X6_readOne p0 p1 p2 hp0 hp2 _ (fun _ h => ((fun h => h)) h) (fun _ h => ((fun h => h)) h) 0 M2)) (fun M10 => ?_)
    refine zv_iconst (z := 1) dX6_readAny_55 ?_
    exact zv_ret (fun h => h) (zv_zrB (by decide) dX6_readAny_56)
  refine zv_iconst (z := 0) dX6_readAny_9 ?_
  exact zv_ret (fun h => h) (zv_zrB (by decide) dX6_readAny_10)
def fb_X6_readAll_13 (k : zK) (rc_X6_readAny : Nat → Int → Nat → zM → Option (zM × Int)) (rc_X6_readAll : Nat → Int → Nat → zM → Option (zM × Int)) (rc_X6_readOne : Nat → Int → Nat → zM → Option (zM × Int)) (l0 : Nat) (l1 : Int) (l2 : Nat) (y3 : Int) (M0 : zM) : Option ((Int × zM) ⊕ ((zM) ⊕ (zM × Int))) :=
  zbr y3 700 (700 ≤ y3) (some (.inr (.inl M0))) (zb1 (f_X6_isWord k l0 3 M0) (fun v3 => zbr v3 0 (v3 = 0) (some (.inr (.inl M0))) (zb1 (f_X6_step k l0 M0) (fun M5 => zbd (rc_X6_readOne l0 l1 l2 M5) (fun M7 v6 => zbr v6 0 (¬ v6 = 0) (zb1 (f_X3_putStep k l2 4 M7) (fun M8 => zlt (y3 + 1) (fun x9 => some (.inl (x9, M8))))) (some (.inr (.inr (M7, 0)))))))))
def fo_X6_readAll (k : zK) (rc_X6_readAny : Nat → Int → Nat → zM → Option (zM × Int)) (rc_X6_readAll : Nat → Int → Nat → zM → Option (zM × Int)) (rc_X6_readOne : Nat → Int → Nat → zM → Option (zM × Int)) (p0 : Nat) (p1 : Int) (p2 : Nat) (M0 : zM) : Option (zM × Int) :=
  zbd (rc_X6_readOne p0 p1 p2 M0) (fun M2 v1 => zbr v1 0 (¬ v1 = 0) (zsp1 (zw2 (fb_X6_readAll_13 k rc_X6_readAny rc_X6_readAll rc_X6_readOne p0 p1 p2) zfu 0 M2) (fun r => some (r)) (fun M10 => some (M10, 1))) (some (M2, 0)))
theorem vl_X6_readAll_13 {κ : zC} {w : zW} (hw : zWk w) (dd : Nat) (rc_X6_readAny : Nat → Int → Nat → zM → Option (zM × Int)) (rc_X6_readAll : Nat → Int → Nat → zM → Option (zM × Int)) (rc_X6_readOne : Nat → Int → Nat → zM → Option (zM × Int)) (hrc_X6_readAny : ∀ (p0 : Nat) (p1 : Int) (p2 : Nat) (M0 : zM), ztag w.1 p0 = 7 → ztag w.1 p2 = 4 → zCn κ.2.1 yX6_readAny cX6_readAny 4 (some .boolean) (5 + dd) 1 w [rn w p0, iv p1, rn w p2] M0 (rc_X6_readAny p0 p1 p2 M0)) (hrc_X6_readAll : ∀ (p0 : Nat) (p1 : Int) (p2 : Nat) (M0 : zM), ztag w.1 p0 = 7 → ztag w.1 p2 = 4 → zCn κ.2.1 yX6_readAll cX6_readAll 4 (some .boolean) (5 + dd) 1 w [rn w p0, iv p1, rn w p2] M0 (rc_X6_readAll p0 p1 p2 M0)) (hrc_X6_readOne : ∀ (p0 : Nat) (p1 : Int) (p2 : Nat) (M0 : zM), ztag w.1 p0 = 7 → ztag w.1 p2 = 4 → zCn κ.2.1 yX6_readOne cX6_readOne 6 (some .boolean) (5 + dd) 1 w [rn w p0, iv p1, rn w p2] M0 (rc_X6_readOne p0 p1 p2 M0)) (l0 : Nat) (l1 : Int) (l2 : Nat) (g0 : ztag w.1 l0 = 7) (g2 : ztag w.1 l2 = 4)  (E : ((zM) ⊕ (zM × Int)) → Prop) (hX : ∀  (M1 : zM), E (.inl M1) → zB cX6_readAll RX6 4 (some .boolean) κ w (0, 0, 5 + dd + 1) 55 [] [] M1) (hR : ∀ r, E (.inr r) → zRt κ w (0, 0, 5 + dd + 1) 1 r) (y3 : Int) (M0 : zM) :
    zV cX6_readAll RX6 4 (some .boolean) κ w (0, 0, 5 + dd + 1) 13 [(3, iv y3), (0, rn w l0), (1, iv l1), (2, rn w l2)] [] M0 (zw2 (fb_X6_readAll_13 w.1 rc_X6_readAny rc_X6_readAll rc_X6_readOne l0 l1 l2) zfu y3 M0) E := by
  have hT := hw.1
  refine zv_loop2 (fun y3 M0 => [(3, iv y3), (0, rn w l0), (1, iv l1), (2, rn w l2)]) (fun y3 M0 => M0) (fun y3 M0 => ?_) y3 M0
  unfold fb_X6_readAll_13
  refine zv_iload_n dX6_readAll_13 0 rfl ?_
  refine zv_sipush (z := 700) dX6_readAll_14 (by decide) ?_
  refine zv_icmp_ge (tgt := 55) dX6_readAll_17 (by decide) ?_ ?_
  · exact zv_sub (L' := []) [] rfl (zv_exit (fun h => hX _ h))
  refine zv_rload_n dX6_readAll_20 1 rfl ?_
  refine zv_ldcs (j := 3) rfl zws_3 dX6_readAll_21 ?_
  refine zv_pc (zv_callVi [rn w (1000000 + 3)] (c_X6_isWord κ.2.1 hw l0 3 M0 g0 (by decide)) zmd_X6_isWord zwI_X6_isWord zwS_X6_isWord zwM_RX6_79 zcd_6 g0 rfl (by show 4 + 1 ≤ 5 + dd + 1; omega) rfl (Nat.le_of_ble_eq_true rfl) dX6_readAll_23 (fun mh4 v3 h4 => ?_))
  obtain rfl := zpuE h4
  refine zv_if_eq (tgt := 55) dX6_readAll_26 (by decide) ?_ ?_
  · exact zv_sub (L' := []) [] rfl (zv_exit (fun h => hX _ h))
  refine zv_rload_n dX6_readAll_29 1 rfl ?_
  refine zv_vc (zv_callVv [] (c_X6_step κ.2.1 hw l0 M0 g0) zmd_X6_step zwI_X6_step zwS_X6_step zwM_RX6_42 zcd_6 g0 rfl (by show 0 + 1 ≤ 5 + dd + 1; omega) rfl (Nat.le_of_ble_eq_true rfl) dX6_readAll_30 (fun M5 _ _ => ?_))
  refine zv_rload_n dX6_readAll_33 1 rfl ?_
  refine zv_iload_n dX6_readAll_34 2 rfl ?_
  refine zv_rload_n dX6_readAll_35 3 rfl ?_
  refine (zv_callVi [iv l1, rn w l2] (hrc_X6_readOne l0 l1 l2 M5 g0 g2) zmd_X6_readOne zwI_X6_readOne zwS_X6_readOne zwM_RX6_116 zcd_6 g0 rfl (by show 5 + dd + 1 ≤ 5 + dd + 1; omega) rfl (Nat.le_of_ble_eq_true rfl) dX6_readAll_36 (fun M7 v6 _ => ?_))
  refine zv_if_ne (tgt := 44) dX6_readAll_39 (by decide) ?_ ?_
  · refine zv_rload_n dX6_readAll_44 3 rfl ?_
    refine zv_iconst (z := 4) dX6_readAll_45 ?_
    refine zv_vc (zv_callVv [iv 4] (c_X3_putStep κ.2.1 hw l2 4 M7 g2) zmd_X3_putStep zwI_X3_putStep zwS_X3_putStep zwM_RX6_112 zcd_3 g2 rfl (by show 0 + 1 ≤ 5 + dd + 1; omega) rfl (Nat.le_of_ble_eq_true rfl) dX6_readAll_46 (fun M8 _ _ => ?_))
    refine zv_iinc dX6_readAll_49 0 rfl (fun x9 => [(3, iv x9), (0, rn w l0), (1, iv l1), (2, rn w l2)]) (by decide) (fun _ => rfl) (fun x9 => ?_)
    refine zv_goto (tgt := 13) dX6_readAll_52 (by decide) ?_
    exact zv_sub (L' := [(3, iv x9), (0, rn w l0), (1, iv l1), (2, rn w l2)]) [0, 1, 2, 3] rfl (zv_exit (fun h => h))
  refine zv_iconst (z := 0) dX6_readAll_42 ?_
  exact zv_ret (fun h => hR _ h) (zv_zrB (by decide) dX6_readAll_43)
theorem co_X6_readAll (l : Launch) {w : zW} (hw : zWk w) (dd : Nat) (rc_X6_readAny : Nat → Int → Nat → zM → Option (zM × Int)) (rc_X6_readAll : Nat → Int → Nat → zM → Option (zM × Int)) (rc_X6_readOne : Nat → Int → Nat → zM → Option (zM × Int)) (hrc_X6_readAny : ∀ (p0 : Nat) (p1 : Int) (p2 : Nat) (M0 : zM), ztag w.1 p0 = 7 → ztag w.1 p2 = 4 → zCn l yX6_readAny cX6_readAny 4 (some .boolean) (5 + dd) 1 w [rn w p0, iv p1, rn w p2] M0 (rc_X6_readAny p0 p1 p2 M0)) (hrc_X6_readAll : ∀ (p0 : Nat) (p1 : Int) (p2 : Nat) (M0 : zM), ztag w.1 p0 = 7 → ztag w.1 p2 = 4 → zCn l yX6_readAll cX6_readAll 4 (some .boolean) (5 + dd) 1 w [rn w p0, iv p1, rn w p2] M0 (rc_X6_readAll p0 p1 p2 M0)) (hrc_X6_readOne : ∀ (p0 : Nat) (p1 : Int) (p2 : Nat) (M0 : zM), ztag w.1 p0 = 7 → ztag w.1 p2 = 4 → zCn l yX6_readOne cX6_readOne 6 (some .boolean) (5 + dd) 1 w [rn w p0, iv p1, rn w p2] M0 (rc_X6_readOne p0 p1 p2 M0)) (p0 : Nat) (p1 : Int) (p2 : Nat) (M0 : zM) (hp0 : ztag w.1 p0 = 7) (hp2 : ztag w.1 p2 = 4) : zCn l yX6_readAll cX6_readAll 4 (some .boolean) (5 + dd + 1) 1 w [rn w p0, iv p1, rn w p2] M0 (fo_X6_readAll w.1 rc_X6_readAny rc_X6_readAll rc_X6_readOne p0 p1 p2 M0) := by
  have hT := hw.1
  refine zCn_of (own := RX6) (by decide) rfl hw (Nat.le_of_ble_eq_true rfl) [(0, rn w p0), (1, iv p1), (2, rn w p2)] rfl ?_
  intro κ hl
  subst hl
  unfold fo_X6_readAll
  refine zv_rload_n dX6_readAll_0 0 rfl ?_
  refine zv_iload_n dX6_readAll_1 1 rfl ?_
  refine zv_rload_n dX6_readAll_2 2 rfl ?_
  refine (zv_callVi [iv p1, rn w p2] (hrc_X6_readOne p0 p1 p2 M0 hp0 hp2) zmd_X6_readOne zwI_X6_readOne zwS_X6_readOne zwM_RX6_116 zcd_6 hp0 rfl (by show 5 + dd + 1 ≤ 5 + dd + 1; omega) rfl (Nat.le_of_ble_eq_true rfl) dX6_readAll_3 (fun M2 v1 _ => ?_))
  refine zv_if_ne (tgt := 11) dX6_readAll_6 (by decide) ?_ ?_
  · refine zv_iconst (z := 0) dX6_readAll_11 ?_
    refine zv_istore_np (L' := [(3, iv 0), (0, rn w p0), (1, iv p1), (2, rn w p2)]) (by rfl) dX6_readAll_12 (by decide) rfl ?_
    refine zv_joinS1 (fun r => r) 55 (fun M10 => []) (fun M10 => []) (fun M10 => M10) (zv_sub (L' := [(3, iv 0), (0, rn w p0), (1, iv p1), (2, rn w p2)]) [0, 1, 2, 3] rfl (vl_X6_readAll_13 hw dd rc_X6_readAny rc_X6_readAll rc_X6_readOne hrc_X6_readAny hrc_X6_readAll hrc_X6_readOne p0 p1 p2 hp0 hp2 _ (fun _ h => ((fun h => h)) h) (fun _ h => ((fun h => h)) h) 0 M2)) (fun M10 => ?_)
    refine zv_iconst (z := 1) dX6_readAll_55 ?_
    exact zv_ret (fun h => h) (zv_zrB (by decide) dX6_readAll_56)
  refine zv_iconst (z := 0) dX6_readAll_9 ?_
  exact zv_ret (fun h => h) (zv_zrB (by decide) dX6_readAll_10)
def fo_X6_readOne (k : zK) (rc_X6_readAny : Nat → Int → Nat → zM → Option (zM × Int)) (rc_X6_readAll : Nat → Int → Nat → zM → Option (zM × Int)) (rc_X6_readOne : Nat → Int → Nat → zM → Option (zM × Int)) (p0 : Nat) (p1 : Int) (p2 : Nat) (M0 : zM) : Option (zM × Int) :=
  zb1 (f_X6_isWord k p0 4 M0) (fun v1 => zsp1 (zbr v1 0 (¬ v1 = 0) (some (.inl M0)) (zb1 (f_X6_isSign k p0 40 M0) (fun v3 => zbr v3 0 (v3 = 0) (zb1 (f_X6_askedWord k p0 M0) (fun v5 => zbr v5 (-1) (¬ v5 = (-1)) (zb1 (f_X6_step k p0 M0) (fun M7 => zb1 (f_X6_comparingSign k p0 M7) (fun v8 => zbr v8 (-1) (¬ v8 = (-1)) (zb1 (f_X6_step k p0 M7) (fun M10 => zbd (f_X6_takeNumber k p0 0 9999 M10) (fun M12 v11 => zbr v11 0 (¬ v11 = 0) (zb1 (f_X3_putComparison k p2 v5 v8 (M12 p0 7) M12) (fun M13 => some (.inr (M13, 1)))) (some (.inr (M12, 0)))))) (some (.inr (M7, 0)))))) (some (.inr (M0, 0))))) (some (.inl M0))))) (fun r => some r) (fun M14 => zbr p1 9 (p1 < 9) (zb1 (f_X6_step k p0 M14) (fun M15 => zbr v1 0 (¬ v1 = 0) (zbd (rc_X6_readOne p0 (p1 + 1) p2 M15) (fun M17 v16 => zb1 (f_X3_putStep k p2 3 M17) (fun M18 => zgd (v16 = 0 ∨ v16 = 1) (some (M18, v16))))) (zbd (rc_X6_readAny p0 (p1 + 1) p2 M15) (fun M20 v19 => zbr v19 0 (v19 = 0) (some (M20, 0)) (zbd (f_X6_takeSign k p0 41 M20) (fun M22 v21 => zbr v21 0 (v21 = 0) (some (M22, 0)) (some (M22, 1)))))))) (some (M14, 0))))
set_option maxRecDepth 20000 in
theorem co_X6_readOne (l : Launch) {w : zW} (hw : zWk w) (dd : Nat) (rc_X6_readAny : Nat → Int → Nat → zM → Option (zM × Int)) (rc_X6_readAll : Nat → Int → Nat → zM → Option (zM × Int)) (rc_X6_readOne : Nat → Int → Nat → zM → Option (zM × Int)) (hrc_X6_readAny : ∀ (p0 : Nat) (p1 : Int) (p2 : Nat) (M0 : zM), ztag w.1 p0 = 7 → ztag w.1 p2 = 4 → zCn l yX6_readAny cX6_readAny 4 (some .boolean) (5 + dd) 1 w [rn w p0, iv p1, rn w p2] M0 (rc_X6_readAny p0 p1 p2 M0)) (hrc_X6_readAll : ∀ (p0 : Nat) (p1 : Int) (p2 : Nat) (M0 : zM), ztag w.1 p0 = 7 → ztag w.1 p2 = 4 → zCn l yX6_readAll cX6_readAll 4 (some .boolean) (5 + dd) 1 w [rn w p0, iv p1, rn w p2] M0 (rc_X6_readAll p0 p1 p2 M0)) (hrc_X6_readOne : ∀ (p0 : Nat) (p1 : Int) (p2 : Nat) (M0 : zM), ztag w.1 p0 = 7 → ztag w.1 p2 = 4 → zCn l yX6_readOne cX6_readOne 6 (some .boolean) (5 + dd) 1 w [rn w p0, iv p1, rn w p2] M0 (rc_X6_readOne p0 p1 p2 M0)) (p0 : Nat) (p1 : Int) (p2 : Nat) (M0 : zM) (hp0 : ztag w.1 p0 = 7) (hp2 : ztag w.1 p2 = 4) : zCn l yX6_readOne cX6_readOne 6 (some .boolean) (5 + dd + 1) 1 w [rn w p0, iv p1, rn w p2] M0 (fo_X6_readOne w.1 rc_X6_readAny rc_X6_readAll rc_X6_readOne p0 p1 p2 M0) := by
  have hT := hw.1
  refine zCn_of (own := RX6) (by decide) rfl hw (Nat.le_of_ble_eq_true rfl) [(0, rn w p0), (1, iv p1), (2, rn w p2)] rfl ?_
  intro κ hl
  subst hl
  unfold fo_X6_readOne
  refine zv_rload_n dX6_readOne_0 0 rfl ?_
  refine zv_ldcs (j := 4) rfl zws_4 dX6_readOne_1 ?_
  refine zv_pc (zv_callVi [rn w (1000000 + 4)] (c_X6_isWord κ.2.1 hw p0 4 M0 hp0 (by decide)) zmd_X6_isWord zwI_X6_isWord zwS_X6_isWord zwM_RX6_79 zcd_6 hp0 rfl (by show 4 + 1 ≤ 5 + dd + 1; omega) rfl (Nat.le_of_ble_eq_true rfl) dX6_readOne_3 (fun mh2 v1 h2 => ?_))
  obtain rfl := zpuE h2
  refine zv_istore_np (L' := [(3, iv v1), (0, rn w p0), (1, iv p1), (2, rn w p2)]) (by rfl) dX6_readOne_6 (by decide) rfl ?_
  refine zv_iload_n dX6_readOne_7 0 rfl ?_
  refine zv_joinS1 (fun r => r) 20 (fun M14 => [(3, iv v1), (0, rn w p0), (1, iv p1), (2, rn w p2)]) (fun M14 => []) (fun M14 => M14) ?_ (fun M14 => ?_)
  · refine zv_if_ne (tgt := 20) dX6_readOne_8 (by decide) ?_ ?_
    · exact zv_sub (L' := [(3, iv v1), (0, rn w p0), (1, iv p1), (2, rn w p2)]) [0, 1, 2, 3] rfl (zv_exit (fun h => h))
    refine zv_rload_n dX6_readOne_11 1 rfl ?_
    refine zv_bipush (z := 40) dX6_readOne_12 (by decide) ?_
    refine zv_pc (zv_callVi [iv 40] (c_X6_isSign κ.2.1 hw p0 40 M0 hp0) zmd_X6_isSign zwI_X6_isSign zwS_X6_isSign zwM_RX6_123 zcd_6 hp0 rfl (by show 0 + 1 ≤ 5 + dd + 1; omega) rfl (Nat.le_of_ble_eq_true rfl) dX6_readOne_14 (fun mh4 v3 h4 => ?_))
    obtain rfl := zpuE h4
    refine zv_if_eq (tgt := 80) dX6_readOne_17 (by decide) ?_ ?_
    · refine zv_rload_n dX6_readOne_80 1 rfl ?_
      refine zv_pc (zv_callVi [] (c_X6_askedWord κ.2.1 hw p0 M0 hp0) zmd_X6_askedWord zwI_X6_askedWord zwS_X6_askedWord zwM_RX6_126 zcd_6 hp0 rfl (by show 5 + 1 ≤ 5 + dd + 1; omega) rfl (Nat.le_of_ble_eq_true rfl) dX6_readOne_81 (fun mh6 v5 h6 => ?_))
      obtain rfl := zpuE h6
      refine zv_istore_p (L' := [(4, iv v5), (3, iv v1), (0, rn w p0), (1, iv p1), (2, rn w p2)]) dX6_readOne_84 (by decide) rfl ?_
      refine zv_iload dX6_readOne_86 0 rfl ?_
      refine zv_iconst (z := (-1)) dX6_readOne_88 ?_
      refine zv_icmp_ne (tgt := 94) dX6_readOne_89 (by decide) ?_ ?_
      · refine zv_rload_n dX6_readOne_94 2 rfl ?_
        refine zv_vc (zv_callVv [] (c_X6_step κ.2.1 hw p0 M0 hp0) zmd_X6_step zwI_X6_step zwS_X6_step zwM_RX6_42 zcd_6 hp0 rfl (by show 0 + 1 ≤ 5 + dd + 1; omega) rfl (Nat.le_of_ble_eq_true rfl) dX6_readOne_95 (fun M7 _ _ => ?_))
        refine zv_rload_n dX6_readOne_98 2 rfl ?_
        refine zv_pc (zv_callVi [] (c_X6_comparingSign κ.2.1 hw p0 M7 hp0) zmd_X6_comparingSign zwI_X6_comparingSign zwS_X6_comparingSign zwM_RX6_129 zcd_6 hp0 rfl (by show 1 + 1 ≤ 5 + dd + 1; omega) rfl (Nat.le_of_ble_eq_true rfl) dX6_readOne_99 (fun mh9 v8 h9 => ?_))
        obtain rfl := zpuE h9
        refine zv_istore_p (L' := [(5, iv v8), (4, iv v5), (3, iv v1), (0, rn w p0), (1, iv p1), (2, rn w p2)]) dX6_readOne_102 (by decide) rfl ?_
        refine zv_iload dX6_readOne_104 0 rfl ?_
        refine zv_iconst (z := (-1)) dX6_readOne_106 ?_
        refine zv_icmp_ne (tgt := 112) dX6_readOne_107 (by decide) ?_ ?_
        · refine zv_rload_n dX6_readOne_112 3 rfl ?_
          refine zv_vc (zv_callVv [] (c_X6_step κ.2.1 hw p0 M7 hp0) zmd_X6_step zwI_X6_step zwS_X6_step zwM_RX6_42 zcd_6 hp0 rfl (by show 0 + 1 ≤ 5 + dd + 1; omega) rfl (Nat.le_of_ble_eq_true rfl) dX6_readOne_113 (fun M10 _ _ => ?_))
          refine zv_rload_n dX6_readOne_116 3 rfl ?_
          refine zv_iconst (z := 0) dX6_readOne_117 ?_
          refine zv_sipush (z := 9999) dX6_readOne_118 (by decide) ?_
          refine (zv_callVi [iv 0, iv 9999] (c_X6_takeNumber κ.2.1 hw p0 0 9999 M10 hp0) zmd_X6_takeNumber zwI_X6_takeNumber zwS_X6_takeNumber zwM_RX6_73 zcd_6 hp0 rfl (by show 1 + 1 ≤ 5 + dd + 1; omega) rfl (Nat.le_of_ble_eq_true rfl) dX6_readOne_121 (fun M12 v11 _ => ?_))
          refine zv_if_ne (tgt := 129) dX6_readOne_124 (by decide) ?_ ?_
          · refine zv_rload_n dX6_readOne_129 5 rfl ?_
            refine zv_iload dX6_readOne_130 1 rfl ?_
            refine zv_iload dX6_readOne_132 0 rfl ?_
            refine zv_rload_n dX6_readOne_134 3 rfl ?_
            refine zg_RX6_34 dX6_readOne_135 hp0 ?_
            refine zv_vc (zv_callVv [iv v5, iv v8, iv (M12 p0 7)] (c_X3_putComparison κ.2.1 hw p2 v5 v8 (M12 p0 7) M12 hp2) zmd_X3_putComparison zwI_X3_putComparison zwS_X3_putComparison zwM_RX6_132 zcd_3 hp2 rfl (by show 1 + 1 ≤ 5 + dd + 1; omega) rfl (Nat.le_of_ble_eq_true rfl) dX6_readOne_138 (fun M13 _ _ => ?_))
            refine zv_iconst (z := 1) dX6_readOne_141 ?_
            exact zv_ret (fun h => h) (zv_zrB (by decide) dX6_readOne_142)
          refine zv_iconst (z := 0) dX6_readOne_127 ?_
          exact zv_ret (fun h => h) (zv_zrB (by decide) dX6_readOne_128)
        refine zv_iconst (z := 0) dX6_readOne_110 ?_
        exact zv_ret (fun h => h) (zv_zrB (by decide) dX6_readOne_111)
      refine zv_iconst (z := 0) dX6_readOne_92 ?_
      exact zv_ret (fun h => h) (zv_zrB (by decide) dX6_readOne_93)
    exact zv_sub (L' := [(3, iv v1), (0, rn w p0), (1, iv p1), (2, rn w p2)]) [0, 1, 2, 3] rfl (zv_exit (fun h => h))
  refine zv_iload_n dX6_readOne_20 2 rfl ?_
  refine zv_bipush (z := 9) dX6_readOne_21 (by decide) ?_
  refine zv_icmp_lt (tgt := 28) dX6_readOne_23 (by decide) ?_ ?_
  · refine zv_rload_n dX6_readOne_28 1 rfl ?_
    refine zv_vc (zv_callVv [] (c_X6_step κ.2.1 hw p0 M14 hp0) zmd_X6_step zwI_X6_step zwS_X6_step zwM_RX6_42 zcd_6 hp0 rfl (by show 0 + 1 ≤ 5 + dd + 1; omega) rfl (Nat.le_of_ble_eq_true rfl) dX6_readOne_29 (fun M15 _ _ => ?_))
    refine zv_iload_n dX6_readOne_32 0 rfl ?_
    refine zv_if_ne (tgt := 62) dX6_readOne_33 (by decide) ?_ ?_
    · refine zv_rload_n dX6_readOne_62 1 rfl ?_
      refine zv_iload_n dX6_readOne_63 2 rfl ?_
      refine zv_iconst (z := 1) dX6_readOne_64 ?_
      refine zv_iadd dX6_readOne_65 ?_
      refine zv_rload_n dX6_readOne_66 3 rfl ?_
      refine (zv_callVi [iv (p1 + 1), rn w p2] (hrc_X6_readOne p0 (p1 + 1) p2 M15 hp0 hp2) zmd_X6_readOne zwI_X6_readOne zwS_X6_readOne zwM_RX6_116 zcd_6 hp0 rfl (by show 5 + dd + 1 ≤ 5 + dd + 1; omega) rfl (Nat.le_of_ble_eq_true rfl) dX6_readOne_67 (fun M17 v16 _ => ?_))
      refine zv_istore_p (L' := [(4, iv v16), (3, iv v1), (0, rn w p0), (1, iv p1), (2, rn w p2)]) dX6_readOne_70 (by decide) rfl ?_
      refine zv_rload_n dX6_readOne_72 4 rfl ?_
      refine zv_iconst (z := 3) dX6_readOne_73 ?_
      refine zv_vc (zv_callVv [iv 3] (c_X3_putStep κ.2.1 hw p2 3 M17 hp2) zmd_X3_putStep zwI_X3_putStep zwS_X3_putStep zwM_RX6_112 zcd_3 hp2 rfl (by show 0 + 1 ≤ 5 + dd + 1; omega) rfl (Nat.le_of_ble_eq_true rfl) dX6_readOne_74 (fun M18 _ _ => ?_))
      refine zv_iload dX6_readOne_77 0 rfl ?_
      exact zv_gd (fun hg => zv_ret (fun h => h) (zv_zrB hg dX6_readOne_79))
    refine zv_rload_n dX6_readOne_36 1 rfl ?_
    refine zv_iload_n dX6_readOne_37 2 rfl ?_
    refine zv_iconst (z := 1) dX6_readOne_38 ?_
    refine zv_iadd dX6_readOne_39 ?_
    refine zv_rload_n dX6_readOne_40 3 rfl ?_
    refine (zv_callVi [iv (p1 + 1), rn w p2] (hrc_X6_readAny p0 (p1 + 1) p2 M15 hp0 hp2) zmd_X6_readAny zwI_X6_readAny zwS_X6_readAny zwM_RX6_101 zcd_6 hp0 rfl (by show 5 + dd + 1 ≤ 5 + dd + 1; omega) rfl (Nat.le_of_ble_eq_true rfl) dX6_readOne_41 (fun M20 v19 _ => ?_))
    refine zv_if_eq (tgt := 60) dX6_readOne_44 (by decide) ?_ ?_
    · refine zv_iconst (z := 0) dX6_readOne_60 ?_
      exact zv_ret (fun h => h) (zv_zrB (by decide) dX6_readOne_61)
    refine zv_rload_n dX6_readOne_47 1 rfl ?_
    refine zv_bipush (z := 41) dX6_readOne_48 (by decide) ?_
    refine (zv_callVi [iv 41] (c_X6_takeSign κ.2.1 hw p0 41 M20 hp0) zmd_X6_takeSign zwI_X6_takeSign zwS_X6_takeSign zwM_RX6_63 zcd_6 hp0 rfl (by show 1 + 1 ≤ 5 + dd + 1; omega) rfl (Nat.le_of_ble_eq_true rfl) dX6_readOne_50 (fun M22 v21 _ => ?_))
    refine zv_if_eq (tgt := 60) dX6_readOne_53 (by decide) ?_ ?_
    · refine zv_iconst (z := 0) dX6_readOne_60 ?_
      exact zv_ret (fun h => h) (zv_zrB (by decide) dX6_readOne_61)
    refine zv_iconst (z := 1) dX6_readOne_56 ?_
    refine zv_goto (tgt := 61) dX6_readOne_57 (by decide) ?_
    exact zv_ret (fun h => h) (zv_zrB (by decide) dX6_readOne_61)
  refine zv_iconst (z := 0) dX6_readOne_26 ?_
  exact zv_ret (fun h => h) (zv_zrB (by decide) dX6_readOne_27)
def fG_rd (k : zK) : Nat → (Nat → Int → Nat → zM → Option (zM × Int)) × (Nat → Int → Nat → zM → Option (zM × Int)) × (Nat → Int → Nat → zM → Option (zM × Int))
  | 0 => (fun _ _ _ _ => none, fun _ _ _ _ => none, fun _ _ _ _ => none)
  | n + 1 => (fo_X6_readAny k ((fG_rd k n).1) ((fG_rd k n).2.1) ((fG_rd k n).2.2), fo_X6_readAll k ((fG_rd k n).1) ((fG_rd k n).2.1) ((fG_rd k n).2.2), fo_X6_readOne k ((fG_rd k n).1) ((fG_rd k n).2.1) ((fG_rd k n).2.2))
theorem cG_rd (l : Launch) {w : zW} (hw : zWk w) : ∀ n : Nat, (∀ (p0 : Nat) (p1 : Int) (p2 : Nat) (M0 : zM), ztag w.1 p0 = 7 → ztag w.1 p2 = 4 → zCn l yX6_readAny cX6_readAny 4 (some .boolean) (5 + n) 1 w [rn w p0, iv p1, rn w p2] M0 ((fG_rd w.1 n).1 p0 p1 p2 M0)) ∧ (∀ (p0 : Nat) (p1 : Int) (p2 : Nat) (M0 : zM), ztag w.1 p0 = 7 → ztag w.1 p2 = 4 → zCn l yX6_readAll cX6_readAll 4 (some .boolean) (5 + n) 1 w [rn w p0, iv p1, rn w p2] M0 ((fG_rd w.1 n).2.1 p0 p1 p2 M0)) ∧ (∀ (p0 : Nat) (p1 : Int) (p2 : Nat) (M0 : zM), ztag w.1 p0 = 7 → ztag w.1 p2 = 4 → zCn l yX6_readOne cX6_readOne 6 (some .boolean) (5 + n) 1 w [rn w p0, iv p1, rn w p2] M0 ((fG_rd w.1 n).2.2 p0 p1 p2 M0))
  := by
  intro n
  induction n with
  | zero =>
    exact ⟨fun _ _ _ _ _ _ => fun _ _ h => (by cases h), fun _ _ _ _ _ _ => fun _ _ h => (by cases h), fun _ _ _ _ _ _ => fun _ _ h => (by cases h)⟩
  | succ n ih =>
    exact ⟨fun p0 p1 p2 M0 hp0 hp2 => co_X6_readAny l hw n ((fG_rd w.1 n).1) ((fG_rd w.1 n).2.1) ((fG_rd w.1 n).2.2) ih.1 ih.2.1 ih.2.2 p0 p1 p2 M0 hp0 hp2,
      fun p0 p1 p2 M0 hp0 hp2 => co_X6_readAll l hw n ((fG_rd w.1 n).1) ((fG_rd w.1 n).2.1) ((fG_rd w.1 n).2.2) ih.1 ih.2.1 ih.2.2 p0 p1 p2 M0 hp0 hp2,
      fun p0 p1 p2 M0 hp0 hp2 => co_X6_readOne l hw n ((fG_rd w.1 n).1) ((fG_rd w.1 n).2.1) ((fG_rd w.1 n).2.2) ih.1 ih.2.1 ih.2.2 p0 p1 p2 M0 hp0 hp2⟩
def f_X6_readAny (k : zK) (p0 : Nat) (p1 : Int) (p2 : Nat) (M0 : zM) : Option (zM × Int) := (fG_rd k 45).1 p0 p1 p2 M0
theorem c_X6_readAny (l : Launch) {w : zW} (hw : zWk w) (p0 : Nat) (p1 : Int) (p2 : Nat) (M0 : zM) (hp0 : ztag w.1 p0 = 7) (hp2 : ztag w.1 p2 = 4) : zCn l yX6_readAny cX6_readAny 4 (some .boolean) (50) 1 w [rn w p0, iv p1, rn w p2] M0 (f_X6_readAny w.1 p0 p1 p2 M0) := (cG_rd l hw 45).1 p0 p1 p2 M0 hp0 hp2
def f_X6_readAll (k : zK) (p0 : Nat) (p1 : Int) (p2 : Nat) (M0 : zM) : Option (zM × Int) := (fG_rd k 45).2.1 p0 p1 p2 M0
theorem c_X6_readAll (l : Launch) {w : zW} (hw : zWk w) (p0 : Nat) (p1 : Int) (p2 : Nat) (M0 : zM) (hp0 : ztag w.1 p0 = 7) (hp2 : ztag w.1 p2 = 4) : zCn l yX6_readAll cX6_readAll 4 (some .boolean) (50) 1 w [rn w p0, iv p1, rn w p2] M0 (f_X6_readAll w.1 p0 p1 p2 M0) := (cG_rd l hw 45).2.1 p0 p1 p2 M0 hp0 hp2
def f_X6_readOne (k : zK) (p0 : Nat) (p1 : Int) (p2 : Nat) (M0 : zM) : Option (zM × Int) := (fG_rd k 45).2.2 p0 p1 p2 M0
theorem c_X6_readOne (l : Launch) {w : zW} (hw : zWk w) (p0 : Nat) (p1 : Int) (p2 : Nat) (M0 : zM) (hp0 : ztag w.1 p0 = 7) (hp2 : ztag w.1 p2 = 4) : zCn l yX6_readOne cX6_readOne 6 (some .boolean) (50) 1 w [rn w p0, iv p1, rn w p2] M0 (f_X6_readOne w.1 p0 p1 p2 M0) := (cG_rd l hw 45).2.2 p0 p1 p2 M0 hp0 hp2
def f_X6_readAsking (k : zK)  (p0 : Nat) (p1 : Int) (p2 : Nat) (M0 : zM) : Option (zM × Int) :=
  zb1 (zbr p1 4 (¬ p1 = 4) (some (99)) (some (100))) (fun x1 => zbd (f_X6_takeNumber k p0 0 x1 M0) (fun M3 v2 => zbr v2 0 (¬ v2 = 0) (zlt (M3 p0 7) (fun x4 => zlt (M3 p2 7) (fun x5 => zb1 (f_X6_isWord k p0 1 M3) (fun v6 => zsp1 (zbr v6 0 (v6 = 0) (some (.inl M3)) (zb1 (f_X6_step k p0 M3) (fun M8 => zbd (f_X6_readAny k p0 0 p2 M8) (fun M10 v9 => zbr v9 0 (¬ v9 = 0) (some (.inl M10)) (some (.inr (M10, 0))))))) (fun r => some r) (fun M11 => zb1 (f_X3_putAsking k p2 p1 x4 x5 M11) (fun M12 => some (M12, 1))))))) (some (M3, 0))))
theorem c_X6_readAsking (l : Launch) {w : zW} (hw : zWk w)  (p0 : Nat) (p1 : Int) (p2 : Nat) (M0 : zM) (hp0 : ztag w.1 p0 = 7) (hp2 : ztag w.1 p2 = 4) : zCn l yX6_readAsking cX6_readAsking 5 (some .boolean) (51) 1 w [rn w p0, iv p1, rn w p2] M0 (f_X6_readAsking w.1 p0 p1 p2 M0) := by
  have hT := hw.1
  refine zCn_of (own := RX6) (by decide) rfl hw (Nat.le_of_ble_eq_true rfl) [(0, rn w p0), (1, iv p1), (2, rn w p2)] rfl ?_
  intro κ hl
  subst hl
  unfold f_X6_readAsking
  refine zv_rload_n dX6_readAsking_0 0 rfl ?_
  refine zv_iconst (z := 0) dX6_readAsking_1 ?_
  refine zv_iload_n dX6_readAsking_2 1 rfl ?_
  refine zv_iconst (z := 4) dX6_readAsking_3 ?_
  refine zv_join1 14 (fun x1 => [(0, rn w p0), (1, iv p1), (2, rn w p2)]) (fun x1 => [iv x1, iv 0, rn w p0]) (fun x1 => M0) ?_ (fun x1 => ?_)
  · refine zv_icmp_ne (tgt := 12) dX6_readAsking_4 (by decide) ?_ ?_
    · refine zv_bipush (z := 99) dX6_readAsking_12 (by decide) ?_
      exact zv_sub (L' := [(0, rn w p0), (1, iv p1), (2, rn w p2)]) [0, 1, 2] rfl (zv_exit (fun h => h))
    refine zv_bipush (z := 100) dX6_readAsking_7 (by decide) ?_
    refine zv_goto (tgt := 14) dX6_readAsking_9 (by decide) ?_
    exact zv_sub (L' := [(0, rn w p0), (1, iv p1), (2, rn w p2)]) [0, 1, 2] rfl (zv_exit (fun h => h))
  refine (zv_callVi [iv 0, iv x1] (c_X6_takeNumber κ.2.1 hw p0 0 x1 M0 hp0) zmd_X6_takeNumber zwI_X6_takeNumber zwS_X6_takeNumber zwM_RX6_73 zcd_6 hp0 rfl (by decide) rfl (Nat.le_of_ble_eq_true rfl) dX6_readAsking_14 (fun M3 v2 _ => ?_))
  refine zv_if_ne (tgt := 22) dX6_readAsking_17 (by decide) ?_ ?_
  · refine zv_rload_n dX6_readAsking_22 0 rfl ?_
    refine zg_RX6_34 dX6_readAsking_23 hp0 ?_
    refine zv_istore_n (i := 3) (by rfl) dX6_readAsking_26 (fun x4 => [(3, iv x4), (0, rn w p0), (1, iv p1), (2, rn w p2)]) (by decide) (fun _ => rfl) (fun x4 => ?_)
    refine zv_rload_n dX6_readAsking_27 3 rfl ?_
    refine zg_RX6_96 dX6_readAsking_28 hp2 ?_
    refine zv_istore dX6_readAsking_31 (fun x5 => [(4, iv x5), (3, iv x4), (0, rn w p0), (1, iv p1), (2, rn w p2)]) (by decide) (fun _ => rfl) (fun x5 => ?_)
    refine zv_rload_n dX6_readAsking_33 2 rfl ?_
    refine zv_ldcs (j := 1) rfl zws_1 dX6_readAsking_34 ?_
    refine zv_pc (zv_callVi [rn w (1000000 + 1)] (c_X6_isWord κ.2.1 hw p0 1 M3 hp0 (by decide)) zmd_X6_isWord zwI_X6_isWord zwS_X6_isWord zwM_RX6_79 zcd_6 hp0 rfl (by decide) rfl (Nat.le_of_ble_eq_true rfl) dX6_readAsking_36 (fun mh7 v6 h7 => ?_))
    obtain rfl := zpuE h7
    refine zv_joinS1 (fun r => r) 57 (fun M11 => [(4, iv x5), (3, iv x4), (1, iv p1), (2, rn w p2)]) (fun M11 => []) (fun M11 => M11) ?_ (fun M11 => ?_)
    · refine zv_if_eq (tgt := 57) dX6_readAsking_39 (by decide) ?_ ?_
      · exact zv_sub (L' := [(4, iv x5), (3, iv x4), (1, iv p1), (2, rn w p2)]) [0, 1, 3, 4] rfl (zv_exit (fun h => h))
      refine zv_rload_n dX6_readAsking_42 2 rfl ?_
      refine zv_vc (zv_callVv [] (c_X6_step κ.2.1 hw p0 M3 hp0) zmd_X6_step zwI_X6_step zwS_X6_step zwM_RX6_42 zcd_6 hp0 rfl (by decide) rfl (Nat.le_of_ble_eq_true rfl) dX6_readAsking_43 (fun M8 _ _ => ?_))
      refine zv_rload_n dX6_readAsking_46 2 rfl ?_
      refine zv_iconst (z := 0) dX6_readAsking_47 ?_
      refine zv_rload_n dX6_readAsking_48 4 rfl ?_
      refine (zv_callVi [iv 0, rn w p2] (c_X6_readAny κ.2.1 hw p0 0 p2 M8 hp0 hp2) zmd_X6_readAny zwI_X6_readAny zwS_X6_readAny zwM_RX6_101 zcd_6 hp0 rfl (by decide) rfl (Nat.le_of_ble_eq_true rfl) dX6_readAsking_49 (fun M10 v9 _ => ?_))
      refine zv_if_ne (tgt := 57) dX6_readAsking_52 (by decide) ?_ ?_
      · exact zv_sub (L' := [(4, iv x5), (3, iv x4), (1, iv p1), (2, rn w p2)]) [0, 1, 3, 4] rfl (zv_exit (fun h => h))
      refine zv_iconst (z := 0) dX6_readAsking_55 ?_
      exact zv_ret (fun h => h) (zv_zrB (by decide) dX6_readAsking_56)
    refine zv_rload_n dX6_readAsking_57 3 rfl ?_
    refine zv_iload_n dX6_readAsking_58 2 rfl ?_
    refine zv_iload_n dX6_readAsking_59 1 rfl ?_
    refine zv_iload dX6_readAsking_60 0 rfl ?_
    refine zv_vc (zv_callVv [iv p1, iv x4, iv x5] (c_X3_putAsking κ.2.1 hw p2 p1 x4 x5 M11 hp2) zmd_X3_putAsking zwI_X3_putAsking zwS_X3_putAsking zwM_RX6_104 zcd_3 hp2 rfl (by decide) rfl (Nat.le_of_ble_eq_true rfl) dX6_readAsking_62 (fun M12 _ _ => ?_))
    refine zv_iconst (z := 1) dX6_readAsking_65 ?_
    exact zv_ret (fun h => h) (zv_zrB (by decide) dX6_readAsking_66)
  refine zv_iconst (z := 0) dX6_readAsking_20 ?_
  exact zv_ret (fun h => h) (zv_zrB (by decide) dX6_readAsking_21)
def f_X6_howWord (k : zK)  (p0 : Nat) (M0 : zM) : Option Int :=
  zb1 (f_X6_isWord k p0 12 M0) (fun v1 => zbr v1 0 (v1 = 0) (zb1 (f_X6_isWord k p0 13 M0) (fun v3 => zbr v3 0 (v3 = 0) (zb1 (f_X6_isWord k p0 14 M0) (fun v5 => zbr v5 0 (v5 = 0) (some (-1)) (some 2))) (some 1))) (some 0))
theorem c_X6_howWord (l : Launch) {w : zW} (hw : zWk w)  (p0 : Nat) (M0 : zM) (hp0 : ztag w.1 p0 = 7) : zCn l yX6_howWord cX6_howWord 1 (some .int) (5) 1 w [rn w p0] M0 ((f_X6_howWord w.1 p0 M0).map fun v => (M0, v)) := by
  have hT := hw.1
  refine zCn_ofP (own := RX6) (by decide) rfl hw (Nat.le_of_ble_eq_true rfl) [(0, rn w p0)] rfl ?_
  intro κ hl
  subst hl
  unfold f_X6_howWord
  refine zv_rload_n dX6_howWord_0 0 rfl ?_
  refine zv_ldcs (j := 12) rfl zws_12 dX6_howWord_1 ?_
  refine zv_pc (zv_callVi [rn w (1000000 + 12)] (c_X6_isWord κ.2.1 hw p0 12 M0 hp0 (by decide)) zmd_X6_isWord zwI_X6_isWord zwS_X6_isWord zwM_RX6_79 zcd_6 hp0 rfl (by decide) rfl (Nat.le_of_ble_eq_true rfl) dX6_howWord_3 (fun mh2 v1 h2 => ?_))
  obtain rfl := zpuE h2
  refine zv_if_eq (tgt := 11) dX6_howWord_6 (by decide) ?_ ?_
  · refine zv_rload_n dX6_howWord_11 0 rfl ?_
    refine zv_ldcs (j := 13) rfl zws_13 dX6_howWord_12 ?_
    refine zv_pc (zv_callVi [rn w (1000000 + 13)] (c_X6_isWord κ.2.1 hw p0 13 M0 hp0 (by decide)) zmd_X6_isWord zwI_X6_isWord zwS_X6_isWord zwM_RX6_79 zcd_6 hp0 rfl (by decide) rfl (Nat.le_of_ble_eq_true rfl) dX6_howWord_14 (fun mh4 v3 h4 => ?_))
    obtain rfl := zpuE h4
    refine zv_if_eq (tgt := 22) dX6_howWord_17 (by decide) ?_ ?_
    · refine zv_rload_n dX6_howWord_22 0 rfl ?_
      refine zv_ldcs (j := 14) rfl zws_14 dX6_howWord_23 ?_
      refine zv_pc (zv_callVi [rn w (1000000 + 14)] (c_X6_isWord κ.2.1 hw p0 14 M0 hp0 (by decide)) zmd_X6_isWord zwI_X6_isWord zwS_X6_isWord zwM_RX6_79 zcd_6 hp0 rfl (by decide) rfl (Nat.le_of_ble_eq_true rfl) dX6_howWord_25 (fun mh6 v5 h6 => ?_))
      obtain rfl := zpuE h6
      refine zv_if_eq (tgt := 35) dX6_howWord_28 (by decide) ?_ ?_
      · refine zv_iconst (z := (-1)) dX6_howWord_35 ?_
        exact zv_ret (fun h => h) (zv_iret dX6_howWord_36)
      refine zv_iconst (z := 2) dX6_howWord_31 ?_
      refine zv_goto (tgt := 36) dX6_howWord_32 (by decide) ?_
      exact zv_ret (fun h => h) (zv_iret dX6_howWord_36)
    refine zv_iconst (z := 1) dX6_howWord_20 ?_
    exact zv_ret (fun h => h) (zv_iret dX6_howWord_21)
  refine zv_iconst (z := 0) dX6_howWord_9 ?_
  exact zv_ret (fun h => h) (zv_iret dX6_howWord_10)
def f_X6_readCarry (k : zK)  (p0 : Nat) (p1 : Nat) (M0 : zM) : Option (zM × Int) :=
  zb1 (f_X6_howWord k p0 M0) (fun v1 => zbr v1 (-1) (¬ v1 = (-1)) (zb1 (f_X6_step k p0 M0) (fun M3 => zbd (f_X6_takeNumber k p0 0 100 M3) (fun M5 v4 => zbr v4 0 (¬ v4 = 0) (zgd (0 ≤ v1 ∧ v1 < 3) (zlt (zst M5 (zfr k p1 14) v1.toNat (M5 p0 7)) (fun M6 => some (M6, 1)))) (some (M5, 0))))) (some (M0, 0)))
theorem c_X6_readCarry (l : Launch) {w : zW} (hw : zWk w)  (p0 : Nat) (p1 : Nat) (M0 : zM) (hp0 : ztag w.1 p0 = 7) (hp1 : ztag w.1 p1 = 4) : zCn l yX6_readCarry cX6_readCarry 3 (some .boolean) (6) 1 w [rn w p0, rn w p1] M0 (f_X6_readCarry w.1 p0 p1 M0) := by
  have hT := hw.1
  refine zCn_of (own := RX6) (by decide) rfl hw (Nat.le_of_ble_eq_true rfl) [(0, rn w p0), (1, rn w p1)] rfl ?_
  intro κ hl
  subst hl
  unfold f_X6_readCarry
  refine zv_rload_n dX6_readCarry_0 0 rfl ?_
  refine zv_pc (zv_callVi [] (c_X6_howWord κ.2.1 hw p0 M0 hp0) zmd_X6_howWord zwI_X6_howWord zwS_X6_howWord zwM_RX6_87 zcd_6 hp0 rfl (by decide) rfl (Nat.le_of_ble_eq_true rfl) dX6_readCarry_1 (fun mh2 v1 h2 => ?_))
  obtain rfl := zpuE h2
  refine zv_istore_np (L' := [(2, iv v1), (0, rn w p0), (1, rn w p1)]) (by rfl) dX6_readCarry_4 (by decide) rfl ?_
  refine zv_iload_n dX6_readCarry_5 0 rfl ?_
  refine zv_iconst (z := (-1)) dX6_readCarry_6 ?_
  refine zv_icmp_ne (tgt := 12) dX6_readCarry_7 (by decide) ?_ ?_
  · refine zv_rload_n dX6_readCarry_12 1 rfl ?_
    refine zv_vc (zv_callVv [] (c_X6_step κ.2.1 hw p0 M0 hp0) zmd_X6_step zwI_X6_step zwS_X6_step zwM_RX6_42 zcd_6 hp0 rfl (by decide) rfl (Nat.le_of_ble_eq_true rfl) dX6_readCarry_13 (fun M3 _ _ => ?_))
    refine zv_rload_n dX6_readCarry_16 1 rfl ?_
    refine zv_iconst (z := 0) dX6_readCarry_17 ?_
    refine zv_bipush (z := 100) dX6_readCarry_18 (by decide) ?_
    refine (zv_callVi [iv 0, iv 100] (c_X6_takeNumber κ.2.1 hw p0 0 100 M3 hp0) zmd_X6_takeNumber zwI_X6_takeNumber zwS_X6_takeNumber zwM_RX6_73 zcd_6 hp0 rfl (by decide) rfl (Nat.le_of_ble_eq_true rfl) dX6_readCarry_20 (fun M5 v4 _ => ?_))
    refine zv_if_ne (tgt := 28) dX6_readCarry_23 (by decide) ?_ ?_
    · refine zv_rload_n dX6_readCarry_28 2 rfl ?_
      refine zg_RX6_90 dX6_readCarry_29 hp1 ?_
      refine zv_iload_n dX6_readCarry_32 0 rfl ?_
      refine zv_rload_n dX6_readCarry_33 1 rfl ?_
      refine zg_RX6_34 dX6_readCarry_34 hp0 ?_
      refine zv_iast dX6_readCarry_37 (zta_3_14 hT hp1) (ztl_3_14 hT hp1) (by decide) (fun M6 => ?_)
      refine zv_iconst (z := 1) dX6_readCarry_38 ?_
      exact zv_ret (fun h => h) (zv_zrB (by decide) dX6_readCarry_39)
    refine zv_iconst (z := 0) dX6_readCarry_26 ?_
    exact zv_ret (fun h => h) (zv_zrB (by decide) dX6_readCarry_27)
  refine zv_iconst (z := 0) dX6_readCarry_10 ?_
  exact zv_ret (fun h => h) (zv_zrB (by decide) dX6_readCarry_11)
def f_X6_readCatch (k : zK)  (p0 : Nat) (p1 : Nat) (M0 : zM) : Option (zM × Int) :=
  zbd (f_X6_takeNumber k p0 0 10 M0) (fun M2 v1 => zbr v1 0 (¬ v1 = 0) (zlt (zst M2 p1 13 (M2 p0 7)) (fun M3 => some (M3, 1))) (some (M2, 0)))
theorem c_X6_readCatch (l : Launch) {w : zW} (hw : zWk w)  (p0 : Nat) (p1 : Nat) (M0 : zM) (hp0 : ztag w.1 p0 = 7) (hp1 : ztag w.1 p1 = 4) : zCn l yX6_readCatch cX6_readCatch 2 (some .boolean) (2) 1 w [rn w p0, rn w p1] M0 (f_X6_readCatch w.1 p0 p1 M0) := by
  have hT := hw.1
  refine zCn_of (own := RX6) (by decide) rfl hw (Nat.le_of_ble_eq_true rfl) [(0, rn w p0), (1, rn w p1)] rfl ?_
  intro κ hl
  subst hl
  unfold f_X6_readCatch
  refine zv_rload_n dX6_readCatch_0 0 rfl ?_
  refine zv_iconst (z := 0) dX6_readCatch_1 ?_
  refine zv_bipush (z := 10) dX6_readCatch_2 (by decide) ?_
  refine (zv_callVi [iv 0, iv 10] (c_X6_takeNumber κ.2.1 hw p0 0 10 M0 hp0) zmd_X6_takeNumber zwI_X6_takeNumber zwS_X6_takeNumber zwM_RX6_73 zcd_6 hp0 rfl (by decide) rfl (Nat.le_of_ble_eq_true rfl) dX6_readCatch_4 (fun M2 v1 _ => ?_))
  refine zv_if_ne (tgt := 12) dX6_readCatch_7 (by decide) ?_ ?_
  · refine zv_rload_n dX6_readCatch_12 1 rfl ?_
    refine zv_rload_n dX6_readCatch_13 0 rfl ?_
    refine zg_RX6_34 dX6_readCatch_14 hp0 ?_
    refine zp_RX6_93 dX6_readCatch_17 hp1 (fun M3 => ?_)
    refine zv_iconst (z := 1) dX6_readCatch_20 ?_
    exact zv_ret (fun h => h) (zv_zrB (by decide) dX6_readCatch_21)
  refine zv_iconst (z := 0) dX6_readCatch_10 ?_
  exact zv_ret (fun h => h) (zv_zrB (by decide) dX6_readCatch_11)
def f_X3_putSea (k : zK)  (p0 : Nat) (p1 : Int) (p2 : Int) (p3 : Int) (M0 : zM) : Option zM :=
  zgd (((1 : Int) = 0 ∨ (1 : Int) = 1) ∧ 0 ≤ p1 ∧ p1 < 100) (zlt (zst M0 (zfr k p0 10) p1.toNat (1)) (fun M1 => zgd (0 ≤ p1 ∧ p1 < 100) (zlt (zst M1 (zfr k p0 8) p1.toNat (p2)) (fun M2 => zgd (0 ≤ p1 ∧ p1 < 100) (zlt (zst M2 (zfr k p0 9) p1.toNat (p3)) (fun M3 => zgd (((1 : Int) = 0 ∨ (1 : Int) = 1) ∧ 0 ≤ p1 ∧ p1 < 100) (zlt (zst M3 (zfr k p0 11) p1.toNat (1)) (fun M4 => some M4))))))))
theorem c_X3_putSea (l : Launch) {w : zW} (hw : zWk w)  (p0 : Nat) (p1 : Int) (p2 : Int) (p3 : Int) (M0 : zM) (hp0 : ztag w.1 p0 = 4) : zCn l yX3_putSea cX3_putSea 4 none (0) 0 w [rn w p0, iv p1, iv p2, iv p3] M0 ((f_X3_putSea w.1 p0 p1 p2 p3 M0).map fun m => (m, (0 : Int))) := by
  have hT := hw.1
  refine zCn_ofV (own := RX3) (by decide) rfl hw (Nat.le_of_ble_eq_true rfl) [(0, rn w p0), (1, iv p1), (2, iv p2), (3, iv p3)] rfl ?_
  intro κ hl
  subst hl
  unfold f_X3_putSea
  refine zv_rload_n dX3_putSea_0 0 rfl ?_
  refine zg_RX3_43 dX3_putSea_1 hp0 ?_
  refine zv_iload_n dX3_putSea_4 1 rfl ?_
  refine zv_iconst (z := 1) dX3_putSea_5 ?_
  refine zv_zast dX3_putSea_6 (zta_3_10 hT hp0) (ztl_3_10 hT hp0) (by decide) (fun M1 => ?_)
  refine zv_rload_n dX3_putSea_7 0 rfl ?_
  refine zg_RX3_37 dX3_putSea_8 hp0 ?_
  refine zv_iload_n dX3_putSea_11 1 rfl ?_
  refine zv_iload_n dX3_putSea_12 2 rfl ?_
  refine zv_iast dX3_putSea_13 (zta_3_8 hT hp0) (ztl_3_8 hT hp0) (by decide) (fun M2 => ?_)
  refine zv_rload_n dX3_putSea_14 0 rfl ?_
  refine zg_RX3_40 dX3_putSea_15 hp0 ?_
  refine zv_iload_n dX3_putSea_18 1 rfl ?_
  refine zv_iload_n dX3_putSea_19 3 rfl ?_
  refine zv_iast dX3_putSea_20 (zta_3_9 hT hp0) (ztl_3_9 hT hp0) (by decide) (fun M3 => ?_)
  refine zv_rload_n dX3_putSea_21 0 rfl ?_
  refine zg_RX3_47 dX3_putSea_22 hp0 ?_
  refine zv_iload_n dX3_putSea_25 1 rfl ?_
  refine zv_iconst (z := 1) dX3_putSea_26 ?_
  refine zv_zast dX3_putSea_27 (zta_3_11 hT hp0) (ztl_3_11 hT hp0) (by decide) (fun M4 => ?_)
  exact zv_ret (fun h => h) (zv_vret (v := 0) dX3_putSea_28)
def f_X6_readSea (k : zK)  (p0 : Nat) (p1 : Nat) (M0 : zM) : Option (zM × Int) :=
  zbd (f_X6_takeNumber k p0 0 99 M0) (fun M2 v1 => zbr v1 0 (¬ v1 = 0) (zlt (M2 p0 7) (fun x3 => zbd (f_X6_takeNumber k p0 0 99 M2) (fun M5 v4 => zbr v4 0 (¬ v4 = 0) (zlt (M5 p0 7) (fun x6 => zb1 (f_X6_isWord k p0 0 M5) (fun v7 => zsp1 (zbr v7 0 (v7 = 0) (some (.inl M5)) (zb1 (f_X6_step k p0 M5) (fun M9 => zbd (f_X6_takeNumber k p0 x6 99 M9) (fun M11 v10 => zbr v10 0 (¬ v10 = 0) (some (.inl M11)) (some (.inr (M11, 0))))))) (fun r => some r) (fun M12 => zb1 (f_X3_putSea k p1 x3 x6 (M12 p0 7) M12) (fun M13 => some (M13, 1)))))) (some (M5, 0))))) (some (M2, 0)))
theorem c_X6_readSea (l : Launch) {w : zW} (hw : zWk w)  (p0 : Nat) (p1 : Nat) (M0 : zM) (hp0 : ztag w.1 p0 = 7) (hp1 : ztag w.1 p1 = 4) : zCn l yX6_readSea cX6_readSea 4 (some .boolean) (5) 1 w [rn w p0, rn w p1] M0 (f_X6_readSea w.1 p0 p1 M0) := by
  have hT := hw.1
  refine zCn_of (own := RX6) (by decide) rfl hw (Nat.le_of_ble_eq_true rfl) [(0, rn w p0), (1, rn w p1)] rfl ?_
  intro κ hl
  subst hl
  unfold f_X6_readSea
  refine zv_rload_n dX6_readSea_0 0 rfl ?_
  refine zv_iconst (z := 0) dX6_readSea_1 ?_
  refine zv_bipush (z := 99) dX6_readSea_2 (by decide) ?_
  refine (zv_callVi [iv 0, iv 99] (c_X6_takeNumber κ.2.1 hw p0 0 99 M0 hp0) zmd_X6_takeNumber zwI_X6_takeNumber zwS_X6_takeNumber zwM_RX6_73 zcd_6 hp0 rfl (by decide) rfl (Nat.le_of_ble_eq_true rfl) dX6_readSea_4 (fun M2 v1 _ => ?_))
  refine zv_if_ne (tgt := 12) dX6_readSea_7 (by decide) ?_ ?_
  · refine zv_rload_n dX6_readSea_12 0 rfl ?_
    refine zg_RX6_34 dX6_readSea_13 hp0 ?_
    refine zv_istore_n (i := 2) (by rfl) dX6_readSea_16 (fun x3 => [(2, iv x3), (0, rn w p0), (1, rn w p1)]) (by decide) (fun _ => rfl) (fun x3 => ?_)
    refine zv_rload_n dX6_readSea_17 1 rfl ?_
    refine zv_iconst (z := 0) dX6_readSea_18 ?_
    refine zv_bipush (z := 99) dX6_readSea_19 (by decide) ?_
    refine (zv_callVi [iv 0, iv 99] (c_X6_takeNumber κ.2.1 hw p0 0 99 M2 hp0) zmd_X6_takeNumber zwI_X6_takeNumber zwS_X6_takeNumber zwM_RX6_73 zcd_6 hp0 rfl (by decide) rfl (Nat.le_of_ble_eq_true rfl) dX6_readSea_21 (fun M5 v4 _ => ?_))
    refine zv_if_ne (tgt := 29) dX6_readSea_24 (by decide) ?_ ?_
    · refine zv_rload_n dX6_readSea_29 1 rfl ?_
      refine zg_RX6_34 dX6_readSea_30 hp0 ?_
      refine zv_istore_n (i := 3) (by rfl) dX6_readSea_33 (fun x6 => [(3, iv x6), (2, iv x3), (0, rn w p0), (1, rn w p1)]) (by decide) (fun _ => rfl) (fun x6 => ?_)
      refine zv_rload_n dX6_readSea_34 2 rfl ?_
      refine zv_ldcs (j := 0) rfl zws_0 dX6_readSea_35 ?_
      refine zv_pc (zv_callVi [rn w (1000000 + 0)] (c_X6_isWord κ.2.1 hw p0 0 M5 hp0 (by decide)) zmd_X6_isWord zwI_X6_isWord zwS_X6_isWord zwM_RX6_79 zcd_6 hp0 rfl (by decide) rfl (Nat.le_of_ble_eq_true rfl) dX6_readSea_37 (fun mh8 v7 h8 => ?_))
      obtain rfl := zpuE h8
      refine zv_joinS1 (fun r => r) 59 (fun M12 => [(3, iv x6), (2, iv x3), (0, rn w p0), (1, rn w p1)]) (fun M12 => []) (fun M12 => M12) ?_ (fun M12 => ?_)
      · refine zv_if_eq (tgt := 59) dX6_readSea_40 (by decide) ?_ ?_
        · exact zv_sub (L' := [(3, iv x6), (2, iv x3), (0, rn w p0), (1, rn w p1)]) [0, 1, 2, 3] rfl (zv_exit (fun h => h))
        refine zv_rload_n dX6_readSea_43 2 rfl ?_
        refine zv_vc (zv_callVv [] (c_X6_step κ.2.1 hw p0 M5 hp0) zmd_X6_step zwI_X6_step zwS_X6_step zwM_RX6_42 zcd_6 hp0 rfl (by decide) rfl (Nat.le_of_ble_eq_true rfl) dX6_readSea_44 (fun M9 _ _ => ?_))
        refine zv_rload_n dX6_readSea_47 2 rfl ?_
        refine zv_iload_n dX6_readSea_48 0 rfl ?_
        refine zv_bipush (z := 99) dX6_readSea_49 (by decide) ?_
        refine (zv_callVi [iv x6, iv 99] (c_X6_takeNumber κ.2.1 hw p0 x6 99 M9 hp0) zmd_X6_takeNumber zwI_X6_takeNumber zwS_X6_takeNumber zwM_RX6_73 zcd_6 hp0 rfl (by decide) rfl (Nat.le_of_ble_eq_true rfl) dX6_readSea_51 (fun M11 v10 _ => ?_))
        refine zv_if_ne (tgt := 59) dX6_readSea_54 (by decide) ?_ ?_
        · exact zv_sub (L' := [(3, iv x6), (2, iv x3), (0, rn w p0), (1, rn w p1)]) [0, 1, 2, 3] rfl (zv_exit (fun h => h))
        refine zv_iconst (z := 0) dX6_readSea_57 ?_
        exact zv_ret (fun h => h) (zv_zrB (by decide) dX6_readSea_58)
      refine zv_rload_n dX6_readSea_59 3 rfl ?_
      refine zv_iload_n dX6_readSea_60 1 rfl ?_
      refine zv_iload_n dX6_readSea_61 0 rfl ?_
      refine zv_rload_n dX6_readSea_62 2 rfl ?_
      refine zg_RX6_34 dX6_readSea_63 hp0 ?_
      refine zv_vc (zv_callVv [iv x3, iv x6, iv (M12 p0 7)] (c_X3_putSea κ.2.1 hw p1 x3 x6 (M12 p0 7) M12 hp1) zmd_X3_putSea zwI_X3_putSea zwS_X3_putSea zwM_RX6_83 zcd_3 hp1 rfl (by decide) rfl (Nat.le_of_ble_eq_true rfl) dX6_readSea_66 (fun M13 _ _ => ?_))
      refine zv_iconst (z := 1) dX6_readSea_69 ?_
      exact zv_ret (fun h => h) (zv_zrB (by decide) dX6_readSea_70)
    refine zv_iconst (z := 0) dX6_readSea_27 ?_
    exact zv_ret (fun h => h) (zv_zrB (by decide) dX6_readSea_28)
  refine zv_iconst (z := 0) dX6_readSea_10 ?_
  exact zv_ret (fun h => h) (zv_zrB (by decide) dX6_readSea_11)
def f_X6_ruleWord (k : zK)  (p0 : Nat) (M0 : zM) : Option Int :=
  zb1 (f_X6_isWord k p0 5 M0) (fun v1 => zbr v1 0 (v1 = 0) (zb1 (f_X6_isWord k p0 6 M0) (fun v3 => zbr v3 0 (v3 = 0) (zb1 (f_X6_isWord k p0 7 M0) (fun v5 => zbr v5 0 (v5 = 0) (zb1 (f_X6_isWord k p0 8 M0) (fun v7 => zbr v7 0 (v7 = 0) (zb1 (f_X6_isWord k p0 9 M0) (fun v9 => zbr v9 0 (v9 = 0) (zb1 (f_X6_isWord k p0 10 M0) (fun v11 => zbr v11 0 (v11 = 0) (zb1 (f_X6_isWord k p0 11 M0) (fun v13 => zbr v13 0 (v13 = 0) (some (-1)) (some 6))) (some 5))) (some 4))) (some 3))) (some 2))) (some 1))) (some 0))
theorem c_X6_ruleWord (l : Launch) {w : zW} (hw : zWk w)  (p0 : Nat) (M0 : zM) (hp0 : ztag w.1 p0 = 7) : zCn l yX6_ruleWord cX6_ruleWord 1 (some .int) (5) 1 w [rn w p0] M0 ((f_X6_ruleWord w.1 p0 M0).map fun v => (M0, v)) := by
  have hT := hw.1
  refine zCn_ofP (own := RX6) (by decide) rfl hw (Nat.le_of_ble_eq_true rfl) [(0, rn w p0)] rfl ?_
  intro κ hl
  subst hl
  unfold f_X6_ruleWord
  refine zv_rload_n dX6_ruleWord_0 0 rfl ?_
  refine zv_ldcs (j := 5) rfl zws_5 dX6_ruleWord_1 ?_
  refine zv_pc (zv_callVi [rn w (1000000 + 5)] (c_X6_isWord κ.2.1 hw p0 5 M0 hp0 (by decide)) zmd_X6_isWord zwI_X6_isWord zwS_X6_isWord zwM_RX6_79 zcd_6 hp0 rfl (by decide) rfl (Nat.le_of_ble_eq_true rfl) dX6_ruleWord_3 (fun mh2 v1 h2 => ?_))
  obtain rfl := zpuE h2
  refine zv_if_eq (tgt := 11) dX6_ruleWord_6 (by decide) ?_ ?_
  · refine zv_rload_n dX6_ruleWord_11 0 rfl ?_
    refine zv_ldcs (j := 6) rfl zws_6 dX6_ruleWord_12 ?_
    refine zv_pc (zv_callVi [rn w (1000000 + 6)] (c_X6_isWord κ.2.1 hw p0 6 M0 hp0 (by decide)) zmd_X6_isWord zwI_X6_isWord zwS_X6_isWord zwM_RX6_79 zcd_6 hp0 rfl (by decide) rfl (Nat.le_of_ble_eq_true rfl) dX6_ruleWord_14 (fun mh4 v3 h4 => ?_))
    obtain rfl := zpuE h4
    refine zv_if_eq (tgt := 22) dX6_ruleWord_17 (by decide) ?_ ?_
    · refine zv_rload_n dX6_ruleWord_22 0 rfl ?_
      refine zv_ldcs (j := 7) rfl zws_7 dX6_ruleWord_23 ?_
      refine zv_pc (zv_callVi [rn w (1000000 + 7)] (c_X6_isWord κ.2.1 hw p0 7 M0 hp0 (by decide)) zmd_X6_isWord zwI_X6_isWord zwS_X6_isWord zwM_RX6_79 zcd_6 hp0 rfl (by decide) rfl (Nat.le_of_ble_eq_true rfl) dX6_ruleWord_25 (fun mh6 v5 h6 => ?_))
      obtain rfl := zpuE h6
      refine zv_if_eq (tgt := 33) dX6_ruleWord_28 (by decide) ?_ ?_
      · refine zv_rload_n dX6_ruleWord_33 0 rfl ?_
        refine zv_ldcs (j := 8) rfl zws_8 dX6_ruleWord_34 ?_
        refine zv_pc (zv_callVi [rn w (1000000 + 8)] (c_X6_isWord κ.2.1 hw p0 8 M0 hp0 (by decide)) zmd_X6_isWord zwI_X6_isWord zwS_X6_isWord zwM_RX6_79 zcd_6 hp0 rfl (by decide) rfl (Nat.le_of_ble_eq_true rfl) dX6_ruleWord_36 (fun mh8 v7 h8 => ?_))
        obtain rfl := zpuE h8
        refine zv_if_eq (tgt := 44) dX6_ruleWord_39 (by decide) ?_ ?_
        · refine zv_rload_n dX6_ruleWord_44 0 rfl ?_
          refine zv_ldcs (j := 9) rfl zws_9 dX6_ruleWord_45 ?_
          refine zv_pc (zv_callVi [rn w (1000000 + 9)] (c_X6_isWord κ.2.1 hw p0 9 M0 hp0 (by decide)) zmd_X6_isWord zwI_X6_isWord zwS_X6_isWord zwM_RX6_79 zcd_6 hp0 rfl (by decide) rfl (Nat.le_of_ble_eq_true rfl) dX6_ruleWord_47 (fun mh10 v9 h10 => ?_))
          obtain rfl := zpuE h10
          refine zv_if_eq (tgt := 55) dX6_ruleWord_50 (by decide) ?_ ?_
          · refine zv_rload_n dX6_ruleWord_55 0 rfl ?_
            refine zv_ldcs (j := 10) rfl zws_10 dX6_ruleWord_56 ?_
            refine zv_pc (zv_callVi [rn w (1000000 + 10)] (c_X6_isWord κ.2.1 hw p0 10 M0 hp0 (by decide)) zmd_X6_isWord zwI_X6_isWord zwS_X6_isWord zwM_RX6_79 zcd_6 hp0 rfl (by decide) rfl (Nat.le_of_ble_eq_true rfl) dX6_ruleWord_58 (fun mh12 v11 h12 => ?_))
            obtain rfl := zpuE h12
            refine zv_if_eq (tgt := 66) dX6_ruleWord_61 (by decide) ?_ ?_
            · refine zv_rload_n dX6_ruleWord_66 0 rfl ?_
              refine zv_ldcs (j := 11) rfl zws_11 dX6_ruleWord_67 ?_
              refine zv_pc (zv_callVi [rn w (1000000 + 11)] (c_X6_isWord κ.2.1 hw p0 11 M0 hp0 (by decide)) zmd_X6_isWord zwI_X6_isWord zwS_X6_isWord zwM_RX6_79 zcd_6 hp0 rfl (by decide) rfl (Nat.le_of_ble_eq_true rfl) dX6_ruleWord_69 (fun mh14 v13 h14 => ?_))
              obtain rfl := zpuE h14
              refine zv_if_eq (tgt := 80) dX6_ruleWord_72 (by decide) ?_ ?_
              · refine zv_iconst (z := (-1)) dX6_ruleWord_80 ?_
                exact zv_ret (fun h => h) (zv_iret dX6_ruleWord_81)
              refine zv_bipush (z := 6) dX6_ruleWord_75 (by decide) ?_
              refine zv_goto (tgt := 81) dX6_ruleWord_77 (by decide) ?_
              exact zv_ret (fun h => h) (zv_iret dX6_ruleWord_81)
            refine zv_iconst (z := 5) dX6_ruleWord_64 ?_
            exact zv_ret (fun h => h) (zv_iret dX6_ruleWord_65)
          refine zv_iconst (z := 4) dX6_ruleWord_53 ?_
          exact zv_ret (fun h => h) (zv_iret dX6_ruleWord_54)
        refine zv_iconst (z := 3) dX6_ruleWord_42 ?_
        exact zv_ret (fun h => h) (zv_iret dX6_ruleWord_43)
      refine zv_iconst (z := 2) dX6_ruleWord_31 ?_
      exact zv_ret (fun h => h) (zv_iret dX6_ruleWord_32)
    refine zv_iconst (z := 1) dX6_ruleWord_20 ?_
    exact zv_ret (fun h => h) (zv_iret dX6_ruleWord_21)
  refine zv_iconst (z := 0) dX6_ruleWord_9 ?_
  exact zv_ret (fun h => h) (zv_iret dX6_ruleWord_10)
def fb_X6_read_20 (k : zK)  (l0 : Nat) (l2 : Nat) (y3 : Int) (M0 : zM) : Option ((Int × zM) ⊕ ((zM) ⊕ (zM × Int))) :=
  zbr y3 40 (40 ≤ y3) (some (.inr (.inl M0))) (zbr (M0 l0 5) 0 (M0 l0 5 = 0) (some (.inr (.inl M0))) (zb1 (f_X6_ruleWord k l0 M0) (fun v5 => zbr v5 (-1) (¬ v5 = (-1)) (zb1 (f_X6_step k l0 M0) (fun M7 => zb2 (zbr v5 0 (¬ v5 = 0) (zbr v5 5 (¬ v5 = 5) (zbr v5 6 (¬ v5 = 6) (zbd (f_X6_readAsking k l0 v5 l2 M7) (fun M9 v8 => some (v8, M9))) (zbd (f_X6_readCatch k l0 l2 M7) (fun M11 v10 => some (v10, M11)))) (zbd (f_X6_readCarry k l0 l2 M7) (fun M13 v12 => some (v12, M13)))) (zbd (f_X6_readSea k l0 l2 M7) (fun M15 v14 => some (v14, M15)))) (fun x16 M17 => zbr x16 0 (x16 = 0) (some (.inr (.inr (M17, M17 l0 3)))) (zbd (f_X6_takeSign k l0 59 M17) (fun M19 v18 => zbr v18 0 (¬ v18 = 0) (zlt (zst M19 l2 0 ((M19 l2 0) + 1)) (fun M20 => zlt (y3 + 1) (fun x21 => some (.inl (x21, M20))))) (some (.inr (.inr (M19, M19 l0 3))))))))) (some (.inr (.inr (M0, M0 l0 3)))))))
def f_X6_read (k : zK)  (p0 : Nat) (p1 : Int) (p2 : Nat) (M0 : zM) : Option (zM × Int) :=
  zb1 (f_X3_clear k p2 M0) (fun M1 => zlt (zst M1 p0 2 p1) (fun M2 => zlt (zst M2 p0 4 0) (fun M3 => zb1 (f_X6_step k p0 M3) (fun M4 => zsp1 (zw2 (fb_X6_read_20 k p0 p2) zfu 0 M4) (fun r => some (r)) (fun M22 => zbr (M22 p0 5) 0 (M22 p0 5 = 0) (zb1 (f_X3_finish k p2 M22) (fun M23 => some (M23, (-1)))) (some (M22, M22 p0 3)))))))
set_option maxRecDepth 20000 in
theorem vl_X6_read_20 {κ : zC} {w : zW} (hw : zWk w)  (l0 : Nat) (l2 : Nat) (g0 : ztag w.1 l0 = 7) (g2 : ztag w.1 l2 = 4)  (E : ((zM) ⊕ (zM × Int)) → Prop) (hX : ∀  (M1 : zM), E (.inl M1) → zB cX6_read RX6 6 (some .int) κ w (0, 0, 52) 146 [(0, rn w l0), (2, rn w l2)] [] M1) (hR : ∀ r, E (.inr r) → zRt κ w (0, 0, 52) 1 r) (y3 : Int) (M0 : zM) :
    zV cX6_read RX6 6 (some .int) κ w (0, 0, 52) 20 [(3, iv y3), (0, rn w l0), (2, rn w l2)] [] M0 (zw2 (fb_X6_read_20 w.1 l0 l2) zfu y3 M0) E := by
  have hT := hw.1
  refine zv_loop2 (fun y3 M0 => [(3, iv y3), (0, rn w l0), (2, rn w l2)]) (fun y3 M0 => M0) (fun y3 M0 => ?_) y3 M0
  unfold fb_X6_read_20
  refine zv_iload_n dX6_read_20 0 rfl ?_
  refine zv_bipush (z := 40) dX6_read_21 (by decide) ?_
  refine zv_icmp_ge (tgt := 146) dX6_read_23 (by decide) ?_ ?_
  · exact zv_sub (L' := [(0, rn w l0), (2, rn w l2)]) [1, 2] rfl (zv_exit (fun h => hX _ h))
  refine zv_rload_n dX6_read_26 1 rfl ?_
  refine zg_RX6_28 dX6_read_27 g0 ?_
  refine zv_if_eq (tgt := 146) dX6_read_30 (by decide) ?_ ?_
  · exact zv_sub (L' := [(0, rn w l0), (2, rn w l2)]) [1, 2] rfl (zv_exit (fun h => hX _ h))
  refine zv_rload_n dX6_read_33 1 rfl ?_
  refine zv_pc (zv_callVi [] (c_X6_ruleWord κ.2.1 hw l0 M0 g0) zmd_X6_ruleWord zwI_X6_ruleWord zwS_X6_ruleWord zwM_RX6_45 zcd_6 g0 rfl (by decide) rfl (Nat.le_of_ble_eq_true rfl) dX6_read_34 (fun mh6 v5 h6 => ?_))
  obtain rfl := zpuE h6
  refine zv_istore_p (L' := [(4, iv v5), (3, iv y3), (0, rn w l0), (2, rn w l2)]) dX6_read_37 (by decide) rfl ?_
  refine zv_iload dX6_read_39 0 rfl ?_
  refine zv_iconst (z := (-1)) dX6_read_41 ?_
  refine zv_icmp_ne (tgt := 50) dX6_read_42 (by decide) ?_ ?_
  · refine zv_rload_n dX6_read_50 2 rfl ?_
    refine zv_vc (zv_callVv [] (c_X6_step κ.2.1 hw l0 M0 g0) zmd_X6_step zwI_X6_step zwS_X6_step zwM_RX6_42 zcd_6 g0 rfl (by decide) rfl (Nat.le_of_ble_eq_true rfl) dX6_read_51 (fun M7 _ _ => ?_))
    refine zv_iload dX6_read_54 0 rfl ?_
    refine zv_join2 111 (fun x16 M17 => [(5, iv x16), (3, iv y3), (0, rn w l0), (2, rn w l2)]) (fun x16 M17 => []) (fun x16 M17 => M17) ?_ (fun x16 M17 => ?_)
    · refine zv_if_ne (tgt := 69) dX6_read_56 (by decide) ?_ ?_
      · refine zv_iload dX6_read_69 0 rfl ?_
        refine zv_iconst (z := 5) dX6_read_71 ?_
        refine zv_icmp_ne (tgt := 85) dX6_read_72 (by decide) ?_ ?_
        · refine zv_iload dX6_read_85 0 rfl ?_
          refine zv_bipush (z := 6) dX6_read_87 (by decide) ?_
          refine zv_icmp_ne (tgt := 102) dX6_read_89 (by decide) ?_ ?_
          · refine zv_rload_n dX6_read_102 2 rfl ?_
            refine zv_iload dX6_read_103 0 rfl ?_
            refine zv_rload_n dX6_read_105 3 rfl ?_
            refine (zv_callVi [iv v5, rn w l2] (c_X6_readAsking κ.2.1 hw l0 v5 l2 M7 g0 g2) zmd_X6_readAsking zwI_X6_readAsking zwS_X6_readAsking zwM_RX6_59 zcd_6 g0 rfl (by decide) rfl (Nat.le_of_ble_eq_true rfl) dX6_read_106 (fun M9 v8 _ => ?_))
            refine zv_istore_p (L' := [(5, iv v8), (4, iv v5), (3, iv y3), (0, rn w l0), (2, rn w l2)]) dX6_read_109 (by decide) rfl ?_
            exact zv_sub (L' := [(5, iv v8), (3, iv y3), (0, rn w l0), (2, rn w l2)]) [0, 2, 3, 4] rfl (zv_exit (fun h => h))
          refine zv_rload_n dX6_read_92 2 rfl ?_
          refine zv_rload_n dX6_read_93 3 rfl ?_
          refine (zv_callVi [rn w l2] (c_X6_readCatch κ.2.1 hw l0 l2 M7 g0 g2) zmd_X6_readCatch zwI_X6_readCatch zwS_X6_readCatch zwM_RX6_56 zcd_6 g0 rfl (by decide) rfl (Nat.le_of_ble_eq_true rfl) dX6_read_94 (fun M11 v10 _ => ?_))
          refine zv_istore_p (L' := [(5, iv v10), (4, iv v5), (3, iv y3), (0, rn w l0), (2, rn w l2)]) dX6_read_97 (by decide) rfl ?_
          refine zv_goto (tgt := 111) dX6_read_99 (by decide) ?_
          exact zv_sub (L' := [(5, iv v10), (3, iv y3), (0, rn w l0), (2, rn w l2)]) [0, 2, 3, 4] rfl (zv_exit (fun h => h))
        refine zv_rload_n dX6_read_75 2 rfl ?_
        refine zv_rload_n dX6_read_76 3 rfl ?_
        refine (zv_callVi [rn w l2] (c_X6_readCarry κ.2.1 hw l0 l2 M7 g0 g2) zmd_X6_readCarry zwI_X6_readCarry zwS_X6_readCarry zwM_RX6_53 zcd_6 g0 rfl (by decide) rfl (Nat.le_of_ble_eq_true rfl) dX6_read_77 (fun M13 v12 _ => ?_))
        refine zv_istore_p (L' := [(5, iv v12), (4, iv v5), (3, iv y3), (0, rn w l0), (2, rn w l2)]) dX6_read_80 (by decide) rfl ?_
        refine zv_goto (tgt := 111) dX6_read_82 (by decide) ?_
        exact zv_sub (L' := [(5, iv v12), (3, iv y3), (0, rn w l0), (2, rn w l2)]) [0, 2, 3, 4] rfl (zv_exit (fun h => h))
      refine zv_rload_n dX6_read_59 2 rfl ?_
      refine zv_rload_n dX6_read_60 3 rfl ?_
      refine (zv_callVi [rn w l2] (c_X6_readSea κ.2.1 hw l0 l2 M7 g0 g2) zmd_X6_readSea zwI_X6_readSea zwS_X6_readSea zwM_RX6_49 zcd_6 g0 rfl (by decide) rfl (Nat.le_of_ble_eq_true rfl) dX6_read_61 (fun M15 v14 _ => ?_))
      refine zv_istore_p (L' := [(5, iv v14), (4, iv v5), (3, iv y3), (0, rn w l0), (2, rn w l2)]) dX6_read_64 (by decide) rfl ?_
      refine zv_goto (tgt := 111) dX6_read_66 (by decide) ?_
      exact zv_sub (L' := [(5, iv v14), (3, iv y3), (0, rn w l0), (2, rn w l2)]) [0, 2, 3, 4] rfl (zv_exit (fun h => h))
    refine zv_iload dX6_read_111 0 rfl ?_
    refine zv_if_eq (tgt := 125) dX6_read_113 (by decide) ?_ ?_
    · refine zv_rload_n dX6_read_125 2 rfl ?_
      refine zg_RX6_22 dX6_read_126 g0 ?_
      exact zv_ret (fun h => hR _ h) (zv_iret dX6_read_129)
    refine zv_rload_n dX6_read_116 2 rfl ?_
    refine zv_bipush (z := 59) dX6_read_117 (by decide) ?_
    refine (zv_callVi [iv 59] (c_X6_takeSign κ.2.1 hw l0 59 M17 g0) zmd_X6_takeSign zwI_X6_takeSign zwS_X6_takeSign zwM_RX6_63 zcd_6 g0 rfl (by decide) rfl (Nat.le_of_ble_eq_true rfl) dX6_read_119 (fun M19 v18 _ => ?_))
    refine zv_if_ne (tgt := 130) dX6_read_122 (by decide) ?_ ?_
    · refine zv_rload_n dX6_read_130 3 rfl ?_
      refine zv_dup dX6_read_131 rfl ?_
      refine zg_RX6_67 dX6_read_132 g2 ?_
      refine zv_iconst (z := 1) dX6_read_135 ?_
      refine zv_iadd dX6_read_136 ?_
      refine zp_RX6_67 dX6_read_137 g2 (fun M20 => ?_)
      refine zv_iinc dX6_read_140 1 rfl (fun x21 => [(3, iv x21), (5, iv x16), (0, rn w l0), (2, rn w l2)]) (by decide) (fun _ => rfl) (fun x21 => ?_)
      refine zv_goto (tgt := 20) dX6_read_143 (by decide) ?_
      exact zv_sub (L' := [(3, iv x21), (0, rn w l0), (2, rn w l2)]) [0, 2, 3] rfl (zv_exit (fun h => h))
    refine zv_rload_n dX6_read_125 2 rfl ?_
    refine zg_RX6_22 dX6_read_126 g0 ?_
    exact zv_ret (fun h => hR _ h) (zv_iret dX6_read_129)
  refine zv_rload_n dX6_read_45 2 rfl ?_
  refine zg_RX6_22 dX6_read_46 g0 ?_
  exact zv_ret (fun h => hR _ h) (zv_iret dX6_read_49)
theorem c_X6_read (l : Launch) {w : zW} (hw : zWk w)  (p0 : Nat) (p1 : Int) (p2 : Nat) (M0 : zM) (hp0 : ztag w.1 p0 = 7) (hp2 : ztag w.1 p2 = 4) : zCn l yX6_read cX6_read 6 (some .int) (52) 1 w [rn w p0, iv p1, rn w p2] M0 (f_X6_read w.1 p0 p1 p2 M0) := by
  have hT := hw.1
  refine zCn_of (own := RX6) (by decide) rfl hw (Nat.le_of_ble_eq_true rfl) [(0, rn w p0), (1, iv p1), (2, rn w p2)] rfl ?_
  intro κ hl
  subst hl
  unfold f_X6_read
  refine zv_rload_n dX6_read_0 2 rfl ?_
  refine zv_vc (zv_callVv [] (c_X3_clear κ.2.1 hw p2 M0 hp2) zmd_X3_clear zwI_X3_clear zwS_X3_clear zwM_RX6_37 zcd_3 hp2 rfl (by decide) rfl (Nat.le_of_ble_eq_true rfl) dX6_read_1 (fun M1 _ _ => ?_))
  refine zv_rload_n dX6_read_4 0 rfl ?_
  refine zv_iload_n dX6_read_5 1 rfl ?_
  refine zp_RX6_19 dX6_read_6 hp0 (fun M2 => ?_)
  refine zv_rload_n dX6_read_9 0 rfl ?_
  refine zv_iconst (z := 0) dX6_read_10 ?_
  refine zp_RX6_25 dX6_read_11 hp0 (fun M3 => ?_)
  refine zv_rload_n dX6_read_14 0 rfl ?_
  refine zv_vc (zv_callVv [] (c_X6_step κ.2.1 hw p0 M3 hp0) zmd_X6_step zwI_X6_step zwS_X6_step zwM_RX6_42 zcd_6 hp0 rfl (by decide) rfl (Nat.le_of_ble_eq_true rfl) dX6_read_15 (fun M4 _ _ => ?_))
  refine zv_iconst (z := 0) dX6_read_18 ?_
  refine zv_istore_np (L' := [(3, iv 0), (0, rn w p0), (1, iv p1), (2, rn w p2)]) (by rfl) dX6_read_19 (by decide) rfl ?_
  refine zv_joinS1 (fun r => r) 146 (fun M22 => [(0, rn w p0), (2, rn w p2)]) (fun M22 => []) (fun M22 => M22) (zv_sub (L' := [(3, iv 0), (0, rn w p0), (2, rn w p2)]) [0, 1, 3] rfl (vl_X6_read_20 hw p0 p2 hp0 hp2 _ (fun _ h => ((fun h => h)) h) (fun _ h => ((fun h => h)) h) 0 M4)) (fun M22 => ?_)
  refine zv_rload_n dX6_read_146 0 rfl ?_
  refine zg_RX6_28 dX6_read_147 hp0 ?_
  refine zv_if_eq (tgt := 158) dX6_read_150 (by decide) ?_ ?_
  · refine zv_rload_n dX6_read_158 1 rfl ?_
    refine zv_vc (zv_callVv [] (c_X3_finish κ.2.1 hw p2 M22 hp2) zmd_X3_finish zwI_X3_finish zwS_X3_finish zwM_RX6_70 zcd_3 hp2 rfl (by decide) rfl (Nat.le_of_ble_eq_true rfl) dX6_read_159 (fun M23 _ _ => ?_))
    refine zv_iconst (z := (-1)) dX6_read_162 ?_
    exact zv_ret (fun h => h) (zv_iret dX6_read_163)
  refine zv_rload_n dX6_read_153 0 rfl ?_
  refine zg_RX6_22 dX6_read_154 hp0 ?_
  exact zv_ret (fun h => h) (zv_iret dX6_read_157)
def f_X10_law (k : zK)  (p0 : Nat) (p1 : Int) (M0 : zM) : Option (zM × Int) :=
  zsp1 (zbr p1 0 (p1 < 0) (some (.inl M0)) (zbr p1 (M0 (zfr k p0 0) 1) (p1 ≤ M0 (zfr k p0 0) 1) (zgd (ztag k (M0 p0 11).toNat = 4 ∧ (M0 p0 11).toNat ≠ 0) (zlt (M0 p0 11).toNat (fun q1 => zbd (f_X6_read k (zfr k p0 0) p1 q1 M0) (fun M4 v3 => zlt (zst M4 p0 12 v3) (fun M5 => zlt (zst M5 (zfr k p0 0) 1 0) (fun M6 => zbr (M6 p0 12) (-1) (M6 p0 12 = (-1)) (zgd (ztag k (M6 p0 10).toNat = 4 ∧ (M6 p0 10).toNat ≠ 0) (zlt (M6 p0 10).toNat (fun q7 => zgd (ztag k (M6 p0 11).toNat = 4 ∧ (M6 p0 11).toNat ≠ 0) (zlt (M6 p0 11).toNat (fun q9 => zlt (zst M6 p0 10 (q9 : Int)) (fun M11 => zlt (zst M11 p0 11 (q7 : Int)) (fun M12 => zb1 (f_X10_forgetGround k p0 M12) (fun M13 => zgd (ztag k (M13 p0 10).toNat = 4 ∧ (M13 p0 10).toNat ≠ 0) (zlt (M13 p0 10).toNat (fun q14 => some (.inr (M13, M13 q14 0)))))))))))) (zbd (f_X10_refuse k p0 2 M6) (fun M17 v16 => some (.inr (M17, (-1))))))))))) (some (.inl M0)))) (fun r => some r) (fun M18 => zbd (f_X10_refuse k p0 0 M18) (fun M20 v19 => some (M20, (-2))))
theorem c_X10_law (l : Launch) {w : zW} (hw : zWk w)  (p0 : Nat) (p1 : Int) (M0 : zM) (hp0 : ztag w.1 p0 = 11) : zCn l yX10_law cX10_law 3 (some .int) (53) 1 w [rn w p0, iv p1] M0 (f_X10_law w.1 p0 p1 M0) := by
  have hT := hw.1
  refine zCn_of (own := RX10) (by decide) rfl hw (Nat.le_of_ble_eq_true rfl) [(0, rn w p0), (1, iv p1)] rfl ?_
  intro κ hl
  subst hl
  unfold f_X10_law
  refine zv_iload_n dX10_law_0 1 rfl ?_
  refine zv_joinS1 (fun r => r) 15 (fun M18 => [(0, rn w p0)]) (fun M18 => []) (fun M18 => M18) ?_ (fun M18 => ?_)
  · refine zv_if_lt (tgt := 15) dX10_law_1 (by decide) ?_ ?_
    · exact zv_sub (L' := [(0, rn w p0)]) [0] rfl (zv_exit (fun h => h))
    refine zv_iload_n dX10_law_4 1 rfl ?_
    refine zv_rload_n dX10_law_5 0 rfl ?_
    refine zg_RX10_10 dX10_law_6 hp0 ?_
    refine zg_RX10_112 dX10_law_9 (zta_10_0 hT hp0) ?_
    refine zv_icmp_le (tgt := 24) dX10_law_12 (by decide) ?_ ?_
    · refine zv_rload_n dX10_law_24 0 rfl ?_
      refine zv_rload_n dX10_law_25 0 rfl ?_
      refine zg_RX10_10 dX10_law_26 hp0 ?_
      refine zv_iload_n dX10_law_29 1 rfl ?_
      refine zv_rload_n dX10_law_30 0 rfl ?_
      refine zg_RX10_78 dX10_law_31 hp0 (fun q1 h2 => ?_)
      refine (zv_callVi [iv p1, rn w q1] (c_X6_read κ.2.1 hw (zfr w.1 p0 0) p1 q1 M0 (zta_10_0 hT hp0) h2) zmd_X6_read zwI_X6_read zwS_X6_read zwM_RX10_119 zcd_6 (zta_10_0 hT hp0) rfl (by decide) rfl (Nat.le_of_ble_eq_true rfl) dX10_law_34 (fun M4 v3 _ => ?_))
      refine zp_RX10_81 dX10_law_37 hp0 (fun M5 => ?_)
      refine zv_rload_n dX10_law_40 0 rfl ?_
      refine zg_RX10_10 dX10_law_41 hp0 ?_
      refine zv_iconst (z := 0) dX10_law_44 ?_
      refine zp_RX10_112 dX10_law_45 (zta_10_0 hT hp0) (fun M6 => ?_)
      refine zv_rload_n dX10_law_48 0 rfl ?_
      refine zg_RX10_81 dX10_law_49 hp0 ?_
      refine zv_iconst (z := (-1)) dX10_law_52 ?_
      refine zv_icmp_eq (tgt := 64) dX10_law_53 (by decide) ?_ ?_
      · refine zv_rload_n dX10_law_64 0 rfl ?_
        refine zg_RX10_74 dX10_law_65 hp0 (fun q7 h8 => ?_)
        refine zv_rstore_np (L' := [(2, rn w q7), (0, rn w p0), (1, iv p1)]) (by rfl) dX10_law_68 (by decide) rfl ?_
        refine zv_rload_n dX10_law_69 1 rfl ?_
        refine zv_rload_n dX10_law_70 1 rfl ?_
        refine zg_RX10_78 dX10_law_71 hp0 (fun q9 h10 => ?_)
        refine zp_RX10_74 h10 hT dX10_law_74 hp0 (fun M11 => ?_)
        refine zv_rload_n dX10_law_77 1 rfl ?_
        refine zv_rload_n dX10_law_78 0 rfl ?_
        refine zp_RX10_78 h8 hT dX10_law_79 hp0 (fun M12 => ?_)
        refine zv_rload_n dX10_law_82 1 rfl ?_
        refine zv_vc (zv_callVv [] (c_X10_forgetGround κ.2.1 hw p0 M12 hp0) zmd_X10_forgetGround zwI_X10_forgetGround zwS_X10_forgetGround zwM_RX10_109 zcd_10 hp0 rfl (by decide) rfl (Nat.le_of_ble_eq_true rfl) dX10_law_83 (fun M13 _ _ => ?_))
        refine zv_rload_n dX10_law_86 1 rfl ?_
        refine zg_RX10_74 dX10_law_87 hp0 (fun q14 h15 => ?_)
        refine zg_RX10_123 dX10_law_90 h15 ?_
        exact zv_ret (fun h => h) (zv_iret dX10_law_93)
      refine zv_rload_n dX10_law_56 0 rfl ?_
      refine zv_iconst (z := 2) dX10_law_57 ?_
      refine (zv_callVi [iv 2] (c_X10_refuse κ.2.1 hw p0 2 M6 hp0) zmd_X10_refuse zwI_X10_refuse zwS_X10_refuse zwM_RX10_99 zcd_10 hp0 rfl (by decide) rfl (Nat.le_of_ble_eq_true rfl) dX10_law_58 (fun M17 v16 _ => ?_))
      refine zv_pop dX10_law_61 rfl ?_
      refine zv_iconst (z := (-1)) dX10_law_62 ?_
      exact zv_ret (fun h => h) (zv_iret dX10_law_63)
    exact zv_sub (L' := [(0, rn w p0)]) [0] rfl (zv_exit (fun h => h))
  refine zv_rload_n dX10_law_15 0 rfl ?_
  refine zv_iconst (z := 0) dX10_law_16 ?_
  refine (zv_callVi [iv 0] (c_X10_refuse κ.2.1 hw p0 0 M18 hp0) zmd_X10_refuse zwI_X10_refuse zwS_X10_refuse zwM_RX10_99 zcd_10 hp0 rfl (by decide) rfl (Nat.le_of_ble_eq_true rfl) dX10_law_17 (fun M20 v19 _ => ?_))
  refine zv_pop dX10_law_20 rfl ?_
  refine zv_bipush (z := (-2)) dX10_law_21 (by decide) ?_
  exact zv_ret (fun h => h) (zv_iret dX10_law_23)
def f_X5_cutTo (k : zK)  (p0 : Nat) (p1 : Int) (M0 : zM) : Option Int :=
  zbl (M0 p0 1) 0 (¬ M0 p0 1 = 0) (zgd ((0 ≤ p1 * (M0 p0 0) ∧ p1 * (M0 p0 0) ≤ 9223372036854775807) ∧ 0 < M0 p0 1 ∧ M0 p0 1 ≤ 9223372036854775807) (some ((p1 * (M0 p0 0)) / (M0 p0 1)))) (some 0)
theorem c_X5_cutTo (l : Launch) {w : zW} (hw : zWk w)  (p0 : Nat) (p1 : Int) (M0 : zM) (hp0 : ztag w.1 p0 = 6) : zCn l yX5_cutTo cX5_cutTo 3 (some .long) (0) 2 w [rn w p0, jv p1] M0 ((f_X5_cutTo w.1 p0 p1 M0).map fun v => (M0, v)) := by
  have hT := hw.1
  refine zCn_ofP (own := RX5) (by decide) rfl hw (Nat.le_of_ble_eq_true rfl) [(0, rn w p0), (1, jv p1)] rfl ?_
  intro κ hl
  subst hl
  unfold f_X5_cutTo
  refine zv_rload_n dX5_cutTo_0 0 rfl ?_
  refine zg_RX5_13 dX5_cutTo_1 hp0 ?_
  refine zv_lconst (z := 0) dX5_cutTo_4 (by decide) ?_
  refine zv_lcmp_ne (tgt := 13) dX5_cutTo_5 dX5_cutTo_6 (by decide) ?_ ?_
  · refine zv_lload_n dX5_cutTo_13 1 rfl ?_
    refine zv_rload_n dX5_cutTo_14 0 rfl ?_
    refine zg_RX5_7 dX5_cutTo_15 hp0 ?_
    refine zv_lmul dX5_cutTo_18 ?_
    refine zv_rload_n dX5_cutTo_19 0 rfl ?_
    refine zg_RX5_13 dX5_cutTo_20 hp0 ?_
    refine zv_ldiv dX5_cutTo_23 ?_
    exact zv_ret (fun h => h) (zv_lret dX5_cutTo_24)
  refine zv_lconst (z := 0) dX5_cutTo_9 (by decide) ?_
  refine zv_goto (tgt := 24) dX5_cutTo_10 (by decide) ?_
  exact zv_ret (fun h => h) (zv_lret dX5_cutTo_24)
def fb_X9_weigh_9 (k : zK)  (l0 : Nat) (l1 : Int) (l2 : Int) (l4 : Int) (y5 : Int) (y7 : Int) (y9 : Int) (M0 : zM) : Option ((Int × Int × Int × zM) ⊕ (zM)) :=
  zbr y9 7 (7 ≤ y9) (some (.inr M0)) (zgd ((0 ≤ l2 * y5 ∧ l2 * y5 ≤ 9223372036854775807) ∧ 0 < y7 ∧ y7 ≤ 9223372036854775807) (zgd (0 ≤ (l1 * 7) + y9 ∧ (l1 * 7) + y9 < 70) (zlt (zst M0 (zfr k l0 3) ((l1 * 7) + y9).toNat ((1000000 - l2) + ((l2 * y5) / y7))) (fun M1 => zgd (zr (10 - l4)) (zlt (y5 * (10 - l4)) (fun x2 => zlt (y7 * 10) (fun x3 => zlt (y9 + 1) (fun x4 => some (.inl (x2, x3, x4, M1))))))))))
def f_X9_weigh (k : zK)  (p0 : Nat) (p1 : Int) (p2 : Int) (p4 : Int) (M0 : zM) : Option zM :=
  zb1 (zw4 (fb_X9_weigh_9 k p0 p1 p2 p4) zfu 1 1 0 M0) (fun M5 => some M5)
theorem vl_X9_weigh_9 {κ : zC} {w : zW} (hw : zWk w)  (l0 : Nat) (l1 : Int) (l2 : Int) (l4 : Int) (g0 : ztag w.1 l0 = 10)  (E : (zM) → Prop) (hX : ∀  (M1 : zM), E M1 → zB cX9_weigh RX9 10 none κ w (0, 0, 0) 66 [] [] M1)  (y5 : Int) (y7 : Int) (y9 : Int) (M0 : zM) :
    zV cX9_weigh RX9 10 none κ w (0, 0, 0) 9 [(5, jv y5), (7, jv y7), (9, iv y9), (0, rn w l0), (1, iv l1), (2, jv l2), (4, iv l4)] [] M0 (zw4 (fb_X9_weigh_9 w.1 l0 l1 l2 l4) zfu y5 y7 y9 M0) E := by
  have hT := hw.1
  refine zv_loop4 (fun y5 y7 y9 M0 => [(5, jv y5), (7, jv y7), (9, iv y9), (0, rn w l0), (1, iv l1), (2, jv l2), (4, iv l4)]) (fun y5 y7 y9 M0 => M0) (fun y5 y7 y9 M0 => ?_) y5 y7 y9 M0
  unfold fb_X9_weigh_9
  refine zv_iload dX9_weigh_9 2 rfl ?_
  refine zv_bipush (z := 7) dX9_weigh_11 (by decide) ?_
  refine zv_icmp_ge (tgt := 66) dX9_weigh_13 (by decide) ?_ ?_
  · exact zv_sub (L' := []) [] rfl (zv_exit (fun h => hX _ h))
  refine zv_rload_n dX9_weigh_16 3 rfl ?_
  refine zg_RX9_24 dX9_weigh_17 g0 ?_
  refine zv_iload_n dX9_weigh_20 4 rfl ?_
  refine zv_bipush (z := 7) dX9_weigh_21 (by decide) ?_
  refine zv_imul dX9_weigh_23 ?_
  refine zv_iload dX9_weigh_24 2 rfl ?_
  refine zv_iadd dX9_weigh_26 ?_
  refine zv_ldc2 (z := 1000000) dX9_weigh_27 zwK_RX9_15 (by decide) ?_
  refine zv_lload_n dX9_weigh_30 5 rfl ?_
  refine zv_lsub dX9_weigh_31 ?_
  refine zv_lload_n dX9_weigh_32 5 rfl ?_
  refine zv_lload dX9_weigh_33 0 rfl ?_
  refine zv_lmul dX9_weigh_35 ?_
  refine zv_lload dX9_weigh_36 1 rfl ?_
  refine zv_ldiv dX9_weigh_38 ?_
  refine zv_ladd dX9_weigh_39 ?_
  refine zv_last dX9_weigh_40 (zta_9_3 hT g0) (ztl_9_3 hT g0) (by decide) (fun M1 => ?_)
  refine zv_lload dX9_weigh_41 0 rfl ?_
  refine zv_bipush (z := 10) dX9_weigh_43 (by decide) ?_
  refine zv_iload dX9_weigh_45 6 rfl ?_
  refine zv_isub dX9_weigh_47 ?_
  refine zv_i2l dX9_weigh_48 ?_
  refine zv_lmul dX9_weigh_49 ?_
  refine zv_lstore dX9_weigh_50 (fun x2 => [(5, jv x2), (7, jv y7), (9, iv y9), (0, rn w l0), (1, iv l1), (2, jv l2), (4, iv l4)]) (by decide) (fun _ => rfl) (fun x2 => ?_)
  refine zv_lload dX9_weigh_52 1 rfl ?_
  refine zv_ldc2 (z := 10) dX9_weigh_54 zwK_RX9_38 (by decide) ?_
  refine zv_lmul dX9_weigh_57 ?_
  refine zv_lstore dX9_weigh_58 (fun x3 => [(7, jv x3), (5, jv x2), (9, iv y9), (0, rn w l0), (1, iv l1), (2, jv l2), (4, iv l4)]) (by decide) (fun _ => rfl) (fun x3 => ?_)
  refine zv_iinc dX9_weigh_60 2 rfl (fun x4 => [(9, iv x4), (7, jv x3), (5, jv x2), (0, rn w l0), (1, iv l1), (2, jv l2), (4, iv l4)]) (by decide) (fun _ => rfl) (fun x4 => ?_)
  refine zv_goto (tgt := 9) dX9_weigh_63 (by decide) ?_
  exact zv_sub (L' := [(5, jv x2), (7, jv x3), (9, iv x4), (0, rn w l0), (1, iv l1), (2, jv l2), (4, iv l4)]) [2, 1, 0, 3, 4, 5, 6] rfl (zv_exit (fun h => h))
theorem c_X9_weigh (l : Launch) {w : zW} (hw : zWk w)  (p0 : Nat) (p1 : Int) (p2 : Int) (p4 : Int) (M0 : zM) (hp0 : ztag w.1 p0 = 10) : zCn l yX9_weigh cX9_weigh 10 none (0) 0 w [rn w p0, iv p1, jv p2, iv p4] M0 ((f_X9_weigh w.1 p0 p1 p2 p4 M0).map fun m => (m, (0 : Int))) := by
  have hT := hw.1
  refine zCn_ofV (own := RX9) (by decide) rfl hw (Nat.le_of_ble_eq_true rfl) [(0, rn w p0), (1, iv p1), (2, jv p2), (4, iv p4)] rfl ?_
  intro κ hl
  subst hl
  unfold f_X9_weigh
  refine zv_lconst (z := 1) dX9_weigh_0 (by decide) ?_
  refine zv_lstore_p (L' := [(5, jv 1), (0, rn w p0), (1, iv p1), (2, jv p2), (4, iv p4)]) dX9_weigh_1 (by decide) rfl ?_
  refine zv_lconst (z := 1) dX9_weigh_3 (by decide) ?_
  refine zv_lstore_p (L' := [(7, jv 1), (5, jv 1), (0, rn w p0), (1, iv p1), (2, jv p2), (4, iv p4)]) dX9_weigh_4 (by decide) rfl ?_
  refine zv_iconst (z := 0) dX9_weigh_6 ?_
  refine zv_istore_p (L' := [(9, iv 0), (7, jv 1), (5, jv 1), (0, rn w p0), (1, iv p1), (2, jv p2), (4, iv p4)]) dX9_weigh_7 (by decide) rfl ?_
  refine zv_join1 66 (fun M5 => []) (fun M5 => []) (fun M5 => M5) (zv_sub (L' := [(5, jv 1), (7, jv 1), (9, iv 0), (0, rn w p0), (1, iv p1), (2, jv p2), (4, iv p4)]) [2, 1, 0, 3, 4, 5, 6] rfl (vl_X9_weigh_9 hw p0 p1 p2 p4 hp0 _ (fun _ h => h) 1 1 0 M0)) (fun M5 => ?_)
  exact zv_ret (fun h => h) (zv_vret (v := 0) dX9_weigh_66)
def fb_X10_layOut_2 (k : zK)  (l0 : Nat) (l1 : Nat) (y2 : Int) (M0 : zM) : Option ((Int × zM) ⊕ (zM)) :=
  zbr y2 (M0 (zfr k l0 1) 18) (M0 (zfr k l0 1) 18 ≤ y2) (some (.inr M0)) (zgd (0 ≤ y2 ∧ y2 < 10) (zb1 (f_X10_reckonLeft k l0 (M0 (zfr k (zfr k l0 1) 10) y2.toNat) l1 M0) (fun M1 => zb1 (f_X5_cutTo k (zfr k l0 8) 1000000 M1) (fun v2 => zgd (ztag k (M1 l0 10).toNat = 4 ∧ (M1 l0 10).toNat ≠ 0) (zlt (M1 l0 10).toNat (fun q4 => zb1 (f_X9_weigh k (zfr k l0 7) y2 v2 (M1 q4 13) M1) (fun M6 => zlt (y2 + 1) (fun x7 => some (.inl (x7, M6))))))))))
def f_X10_layOut (k : zK)  (p0 : Nat) (p1 : Nat) (M0 : zM) : Option zM :=
  zb1 (zw2 (fb_X10_layOut_2 k p0 p1) zfu 0 M0) (fun M8 => some M8)
theorem vl_X10_layOut_2 {κ : zC} {w : zW} (hw : zWk w)  (l0 : Nat) (l1 : Nat) (g0 : ztag w.1 l0 = 11) (g1 : ztag w.1 l1 = 9)  (E : (zM) → Prop) (hX : ∀  (M1 : zM), E M1 → zB cX10_layOut RX10 3 none κ w (0, 0, 3) 58 [] [] M1)  (y2 : Int) (M0 : zM) :
    zV cX10_layOut RX10 3 none κ w (0, 0, 3) 2 [(2, iv y2), (0, rn w l0), (1, rn w l1)] [] M0 (zw2 (fb_X10_layOut_2 w.1 l0 l1) zfu y2 M0) E := by
  have hT := hw.1
  refine zv_loop2 (fun y2 M0 => [(2, iv y2), (0, rn w l0), (1, rn w l1)]) (fun y2 M0 => M0) (fun y2 M0 => ?_) y2 M0
  unfold fb_X10_layOut_2
  refine zv_iload_n dX10_layOut_2 0 rfl ?_
  refine zv_rload_n dX10_layOut_3 1 rfl ?_
  refine zg_RX10_19 dX10_layOut_4 g0 ?_
  refine zg_RX10_172 dX10_layOut_7 (zta_10_1 hT g0) ?_
  refine zv_icmp_ge (tgt := 58) dX10_layOut_10 (by decide) ?_ ?_
  · exact zv_sub (L' := []) [] rfl (zv_exit (fun h => hX _ h))
  refine zv_rload_n dX10_layOut_13 1 rfl ?_
  refine zv_rload_n dX10_layOut_14 1 rfl ?_
  refine zg_RX10_19 dX10_layOut_15 g0 ?_
  refine zg_RX10_175 dX10_layOut_18 (zta_10_1 hT g0) ?_
  refine zv_iload_n dX10_layOut_21 0 rfl ?_
  refine zv_iald dX10_layOut_22 (zta_7_10 hT (zta_10_1 hT g0)) (ztl_7_10 hT (zta_10_1 hT g0)) (by decide) ?_
  refine zv_rload_n dX10_layOut_23 2 rfl ?_
  refine zv_vc (zv_callVv [iv (M0 (zfr w.1 (zfr w.1 l0 1) 10) y2.toNat), rn w l1] (c_X10_reckonLeft κ.2.1 hw l0 (M0 (zfr w.1 (zfr w.1 l0 1) 10) y2.toNat) l1 M0 g0 g1) zmd_X10_reckonLeft zwI_X10_reckonLeft zwS_X10_reckonLeft zwM_RX10_299 zcd_10 g0 rfl (by decide) rfl (Nat.le_of_ble_eq_true rfl) dX10_layOut_24 (fun M1 _ _ => ?_))
  refine zv_rload_n dX10_layOut_27 1 rfl ?_
  refine zg_RX10_56 dX10_layOut_28 g0 ?_
  refine zv_iload_n dX10_layOut_31 0 rfl ?_
  refine zv_rload_n dX10_layOut_32 1 rfl ?_
  refine zg_RX10_63 dX10_layOut_33 g0 ?_
  refine zv_ldc2 (z := 1000000) dX10_layOut_36 zwK_RX10_399 (by decide) ?_
  refine zv_pc (zv_callVl [jv 1000000] (c_X5_cutTo κ.2.1 hw (zfr w.1 l0 8) 1000000 M1 (zta_10_8 hT g0)) zmd_X5_cutTo zwI_X5_cutTo zwS_X5_cutTo zwM_RX10_407 zcd_5 (zta_10_8 hT g0) rfl (by decide) rfl (Nat.le_of_ble_eq_true rfl) dX10_layOut_39 (fun mh3 v2 h3 => ?_))
  obtain rfl := zpuE h3
  refine zv_rload_n dX10_layOut_42 1 rfl ?_
  refine zg_RX10_74 dX10_layOut_43 g0 (fun q4 h5 => ?_)
  refine zg_RX10_347 dX10_layOut_46 h5 ?_
  refine zv_vc (zv_callVv [iv y2, jv v2, iv (M1 q4 13)] (c_X9_weigh κ.2.1 hw (zfr w.1 l0 7) y2 v2 (M1 q4 13) M1 (zta_10_7 hT g0)) zmd_X9_weigh zwI_X9_weigh zwS_X9_weigh zwM_RX10_411 zcd_9 (zta_10_7 hT g0) rfl (by decide) rfl (Nat.le_of_ble_eq_true rfl) dX10_layOut_49 (fun M6 _ _ => ?_))
  refine zv_iinc dX10_layOut_52 0 rfl (fun x7 => [(2, iv x7), (0, rn w l0), (1, rn w l1)]) (by decide) (fun _ => rfl) (fun x7 => ?_)
  refine zv_goto (tgt := 2) dX10_layOut_55 (by decide) ?_
  exact zv_sub (L' := [(2, iv x7), (0, rn w l0), (1, rn w l1)]) [0, 1, 2] rfl (zv_exit (fun h => h))
theorem c_X10_layOut (l : Launch) {w : zW} (hw : zWk w)  (p0 : Nat) (p1 : Nat) (M0 : zM) (hp0 : ztag w.1 p0 = 11) (hp1 : ztag w.1 p1 = 9) : zCn l yX10_layOut cX10_layOut 3 none (3) 0 w [rn w p0, rn w p1] M0 ((f_X10_layOut w.1 p0 p1 M0).map fun m => (m, (0 : Int))) := by
  have hT := hw.1
  refine zCn_ofV (own := RX10) (by decide) rfl hw (Nat.le_of_ble_eq_true rfl) [(0, rn w p0), (1, rn w p1)] rfl ?_
  intro κ hl
  subst hl
  unfold f_X10_layOut
  refine zv_iconst (z := 0) dX10_layOut_0 ?_
  refine zv_istore_np (L' := [(2, iv 0), (0, rn w p0), (1, rn w p1)]) (by rfl) dX10_layOut_1 (by decide) rfl ?_
  refine zv_join1 58 (fun M8 => []) (fun M8 => []) (fun M8 => M8) (zv_sub (L' := [(2, iv 0), (0, rn w p0), (1, rn w p1)]) [0, 1, 2] rfl (vl_X10_layOut_2 hw p0 p1 hp0 hp1 _ (fun _ h => h) 0 M0)) (fun M8 => ?_)
  exact zv_ret (fun h => h) (zv_vret (v := 0) dX10_layOut_58)
def f_X10_quarterOf (k : zK)  (p0 : Int) (M0 : zM) : Option Int :=
  zgd (0 ≤ p0 ∧ p0 ≤ 2147483647) (zb1 (zbr (p0 % 16) 7 (p0 % 16 ≤ 7) (some (0)) (some (1))) (fun x1 => zgd (0 ≤ p0 ∧ p0 ≤ 2147483647) (zbr (p0 / 16) 7 (p0 / 16 ≤ 7) (some (x1 + 0)) (some (x1 + 2)))))
theorem c_X10_quarterOf (l : Launch) {w : zW} (hw : zWk w)  (p0 : Int) (M0 : zM)  : zCn l yX10_quarterOf cX10_quarterOf 1 (some .int) (0) 1 w [iv p0] M0 ((f_X10_quarterOf w.1 p0 M0).map fun v => (M0, v)) := by
  have hT := hw.1
  refine zCn_ofP (own := RX10) (by decide) rfl hw (Nat.le_of_ble_eq_true rfl) [(0, iv p0)] rfl ?_
  intro κ hl
  subst hl
  unfold f_X10_quarterOf
  refine zv_iload_n dX10_quarterOf_0 0 rfl ?_
  refine zv_bipush (z := 16) dX10_quarterOf_1 (by decide) ?_
  refine zv_iremc (by decide) dX10_quarterOf_3 ?_
  refine zv_bipush (z := 7) dX10_quarterOf_4 (by decide) ?_
  refine zv_join1 14 (fun x1 => [(0, iv p0)]) (fun x1 => [iv x1]) (fun x1 => M0) ?_ (fun x1 => ?_)
  · refine zv_icmp_le (tgt := 13) dX10_quarterOf_6 (by decide) ?_ ?_
    · refine zv_iconst (z := 0) dX10_quarterOf_13 ?_
      exact zv_sub (L' := [(0, iv p0)]) [0] rfl (zv_exit (fun h => h))
    refine zv_iconst (z := 1) dX10_quarterOf_9 ?_
    refine zv_goto (tgt := 14) dX10_quarterOf_10 (by decide) ?_
    exact zv_sub (L' := [(0, iv p0)]) [0] rfl (zv_exit (fun h => h))
  refine zv_iload_n dX10_quarterOf_14 0 rfl ?_
  refine zv_bipush (z := 16) dX10_quarterOf_15 (by decide) ?_
  refine zv_idivc (by decide) dX10_quarterOf_17 ?_
  refine zv_bipush (z := 7) dX10_quarterOf_18 (by decide) ?_
  refine zv_icmp_le (tgt := 27) dX10_quarterOf_20 (by decide) ?_ ?_
  · refine zv_iconst (z := 0) dX10_quarterOf_27 ?_
    refine zv_iadd dX10_quarterOf_28 ?_
    exact zv_ret (fun h => h) (zv_iret dX10_quarterOf_29)
  refine zv_iconst (z := 2) dX10_quarterOf_23 ?_
  refine zv_goto (tgt := 28) dX10_quarterOf_24 (by decide) ?_
  refine zv_iadd dX10_quarterOf_28 ?_
  exact zv_ret (fun h => h) (zv_iret dX10_quarterOf_29)
def fb_X10_sumFish_6 (k : zK)  (l0 : Nat) (l1 : Int) (l2 : Int) (l3 : Nat) (y4 : Int) (y5 : Int) (M0 : zM) : Option ((Int × Int × zM) ⊕ (Int × zM)) :=
  zbr y5 256 (256 ≤ y5) (some (.inr (y4, M0))) (zb1 (f_X10_quarterOf k y5 M0) (fun v1 => zbr v1 l1 (¬ v1 = l1) (zlt (y5 + 1) (fun x3 => some (.inl (y4, x3, M0)))) (zgd (ztag k (M0 l0 10).toNat = 4 ∧ (M0 l0 10).toNat ≠ 0) (zlt (M0 l0 10).toNat (fun q4 => zbd (f_X8_wordsOf k l3 y5 l2 M0) (fun M7 v6 => zgd (ztag k v6.toNat = 20 ∧ ((zlen k v6.toNat : Nat) : Int) = 8) (zb1 (f_X3_first k q4 3 (v6.toNat) 0 M7) (fun v9 => zlt (y4 + v9) (fun x11 => zlt (y5 + 1) (fun x12 => some (.inl (x11, x12, M7))))))))))))
def f_X10_sumFish (k : zK)  (p0 : Nat) (p1 : Int) (p2 : Int) (p3 : Nat) (M0 : zM) : Option (zM × Int) :=
  zb2 (zw3 (fb_X10_sumFish_6 k p0 p1 p2 p3) zfu 0 0 M0) (fun x13 M14 => some (M14, x13))
theorem vl_X10_sumFish_6 {κ : zC} {w : zW} (hw : zWk w)  (l0 : Nat) (l1 : Int) (l2 : Int) (l3 : Nat) (g0 : ztag w.1 l0 = 11) (g3 : ztag w.1 l3 = 9)  (E : (Int × zM) → Prop) (hX : ∀ (u4 : Int) (M1 : zM), E (u4, M1) → zB cX10_sumFish RX10 6 (some .int) κ w (0, 0, 3) 50 [(4, iv u4)] [] M1)  (y4 : Int) (y5 : Int) (M0 : zM) :
    zV cX10_sumFish RX10 6 (some .int) κ w (0, 0, 3) 6 [(4, iv y4), (5, iv y5), (0, rn w l0), (1, iv l1), (2, iv l2), (3, rn w l3)] [] M0 (zw3 (fb_X10_sumFish_6 w.1 l0 l1 l2 l3) zfu y4 y5 M0) E := by
  have hT := hw.1
  refine zv_loop3 (fun y4 y5 M0 => [(4, iv y4), (5, iv y5), (0, rn w l0), (1, iv l1), (2, iv l2), (3, rn w l3)]) (fun y4 y5 M0 => M0) (fun y4 y5 M0 => ?_) y4 y5 M0
  unfold fb_X10_sumFish_6
  refine zv_iload dX10_sumFish_6 1 rfl ?_
  refine zv_sipush (z := 256) dX10_sumFish_8 (by decide) ?_
  refine zv_icmp_ge (tgt := 50) dX10_sumFish_11 (by decide) ?_ ?_
  · exact zv_sub (L' := [(4, iv y4)]) [0] rfl (zv_exit (fun h => hX _ _ h))
  refine zv_iload dX10_sumFish_14 1 rfl ?_
  refine zv_pc (zv_callSi [iv y5] (c_X10_quarterOf κ.2.1 hw y5 M0 ) zmd_X10_quarterOf zwT_X10_quarterOf zwM_RX10_307 rfl (by decide) rfl (Nat.le_of_ble_eq_true rfl) dX10_sumFish_16 (fun mh2 v1 h2 => ?_))
  obtain rfl := zpuE h2
  refine zv_iload_n dX10_sumFish_19 3 rfl ?_
  refine zv_icmp_ne (tgt := 44) dX10_sumFish_20 (by decide) ?_ ?_
  · refine zv_iinc dX10_sumFish_44 1 rfl (fun x3 => [(5, iv x3), (4, iv y4), (0, rn w l0), (1, iv l1), (2, iv l2), (3, rn w l3)]) (by decide) (fun _ => rfl) (fun x3 => ?_)
    refine zv_goto (tgt := 6) dX10_sumFish_47 (by decide) ?_
    exact zv_sub (L' := [(4, iv y4), (5, iv x3), (0, rn w l0), (1, iv l1), (2, iv l2), (3, rn w l3)]) [1, 0, 2, 3, 4, 5] rfl (zv_exit (fun h => h))
  refine zv_iload dX10_sumFish_23 0 rfl ?_
  refine zv_rload_n dX10_sumFish_25 2 rfl ?_
  refine zg_RX10_74 dX10_sumFish_26 g0 (fun q4 h5 => ?_)
  refine zv_iconst (z := 3) dX10_sumFish_29 ?_
  refine zv_rload_n dX10_sumFish_30 5 rfl ?_
  refine zv_iload dX10_sumFish_31 1 rfl ?_
  refine zv_iload_n dX10_sumFish_33 4 rfl ?_
  refine (zv_callVr [iv y5, iv l2] (c_X8_wordsOf κ.2.1 hw l3 y5 l2 M0 g3) zmd_X8_wordsOf zwI_X8_wordsOf zwS_X8_wordsOf zwM_RX10_259 zcd_8 g3 rfl (by decide) rfl (Nat.le_of_ble_eq_true rfl) dX10_sumFish_34 (fun M7 v6 _ => ?_))
  refine zv_gd (fun h8 => ?_)
  refine zv_iconst (z := 0) dX10_sumFish_37 ?_
  refine zv_pc (zv_callVi [iv 3, rn w (v6.toNat), iv 0] (c_X3_first κ.2.1 hw q4 3 (v6.toNat) 0 M7 h5 h8.1 h8.2) zmd_X3_first zwI_X3_first zwS_X3_first zwM_RX10_263 zcd_3 h5 rfl (by decide) rfl (Nat.le_of_ble_eq_true rfl) dX10_sumFish_38 (fun mh10 v9 h10 => ?_))
  obtain rfl := zpuE h10
  refine zv_iadd dX10_sumFish_41 ?_
  refine zv_istore dX10_sumFish_42 (fun x11 => [(4, iv x11), (5, iv y5), (0, rn w l0), (1, iv l1), (2, iv l2), (3, rn w l3)]) (by decide) (fun _ => rfl) (fun x11 => ?_)
  refine zv_iinc dX10_sumFish_44 1 rfl (fun x12 => [(5, iv x12), (4, iv x11), (0, rn w l0), (1, iv l1), (2, iv l2), (3, rn w l3)]) (by decide) (fun _ => rfl) (fun x12 => ?_)
  refine zv_goto (tgt := 6) dX10_sumFish_47 (by decide) ?_
  exact zv_sub (L' := [(4, iv x11), (5, iv x12), (0, rn w l0), (1, iv l1), (2, iv l2), (3, rn w l3)]) [1, 0, 2, 3, 4, 5] rfl (zv_exit (fun h => h))
theorem c_X10_sumFish (l : Launch) {w : zW} (hw : zWk w)  (p0 : Nat) (p1 : Int) (p2 : Int) (p3 : Nat) (M0 : zM) (hp0 : ztag w.1 p0 = 11) (hp3 : ztag w.1 p3 = 9) : zCn l yX10_sumFish cX10_sumFish 6 (some .int) (3) 1 w [rn w p0, iv p1, iv p2, rn w p3] M0 (f_X10_sumFish w.1 p0 p1 p2 p3 M0) := by
  have hT := hw.1
  refine zCn_of (own := RX10) (by decide) rfl hw (Nat.le_of_ble_eq_true rfl) [(0, rn w p0), (1, iv p1), (2, iv p2), (3, rn w p3)] rfl ?_
  intro κ hl
  subst hl
  unfold f_X10_sumFish
  refine zv_iconst (z := 0) dX10_sumFish_0 ?_
  refine zv_istore_p (L' := [(4, iv 0), (0, rn w p0), (1, iv p1), (2, iv p2), (3, rn w p3)]) dX10_sumFish_1 (by decide) rfl ?_
  refine zv_iconst (z := 0) dX10_sumFish_3 ?_
  refine zv_istore_p (L' := [(5, iv 0), (4, iv 0), (0, rn w p0), (1, iv p1), (2, iv p2), (3, rn w p3)]) dX10_sumFish_4 (by decide) rfl ?_
  refine zv_join2 50 (fun x13 M14 => [(4, iv x13)]) (fun x13 M14 => []) (fun x13 M14 => M14) (zv_sub (L' := [(4, iv 0), (5, iv 0), (0, rn w p0), (1, iv p1), (2, iv p2), (3, rn w p3)]) [1, 0, 2, 3, 4, 5] rfl (vl_X10_sumFish_6 hw p0 p1 p2 p3 hp0 hp3 _ (fun _ _ h => h) 0 0 M0)) (fun x13 M14 => ?_)
  refine zv_iload dX10_sumFish_50 0 rfl ?_
  exact zv_ret (fun h => h) (zv_iret dX10_sumFish_52)
def f_X10_lean (k : zK)  (p0 : Nat) (p1 : Int) (p2 : Int) (M0 : zM) : Option (zM × Int) :=
  zbr p1 0 (p1 < 0) (some (M0, (-1))) (zbr p1 3 (3 < p1) (some (M0, (-1))) (zb1 (f_X10_isAge k p2 M0) (fun v1 => zbr v1 0 (¬ v1 = 0) (zbd (f_X10_viewAt k p0 p2 M0) (fun M4 v3 => zgd (ztag k v3.toNat = 9) (zbd (f_X10_sumFish k p0 p1 p2 (v3.toNat) M4) (fun M7 v6 => some (M7, v6))))) (some (M0, (-1))))))
theorem c_X10_lean (l : Launch) {w : zW} (hw : zWk w)  (p0 : Nat) (p1 : Int) (p2 : Int) (M0 : zM) (hp0 : ztag w.1 p0 = 11) : zCn l yX10_lean cX10_lean 3 (some .int) (6) 1 w [rn w p0, iv p1, iv p2] M0 (f_X10_lean w.1 p0 p1 p2 M0) := by
  have hT := hw.1
  refine zCn_of (own := RX10) (by decide) rfl hw (Nat.le_of_ble_eq_true rfl) [(0, rn w p0), (1, iv p1), (2, iv p2)] rfl ?_
  intro κ hl
  subst hl
  unfold f_X10_lean
  refine zv_iload_n dX10_lean_0 1 rfl ?_
  refine zv_if_lt (tgt := 16) dX10_lean_1 (by decide) ?_ ?_
  · refine zv_iconst (z := (-1)) dX10_lean_16 ?_
    exact zv_ret (fun h => h) (zv_iret dX10_lean_17)
  refine zv_iload_n dX10_lean_4 1 rfl ?_
  refine zv_iconst (z := 3) dX10_lean_5 ?_
  refine zv_icmp_gt (tgt := 16) dX10_lean_6 (by decide) ?_ ?_
  · refine zv_iconst (z := (-1)) dX10_lean_16 ?_
    exact zv_ret (fun h => h) (zv_iret dX10_lean_17)
  refine zv_iload_n dX10_lean_9 2 rfl ?_
  refine zv_pc (zv_callSi [iv p2] (c_X10_isAge κ.2.1 hw p2 M0 ) zmd_X10_isAge zwT_X10_isAge zwM_RX10_197 rfl (by decide) rfl (Nat.le_of_ble_eq_true rfl) dX10_lean_10 (fun mh2 v1 h2 => ?_))
  obtain rfl := zpuE h2
  refine zv_if_ne (tgt := 18) dX10_lean_13 (by decide) ?_ ?_
  · refine zv_rload_n dX10_lean_18 0 rfl ?_
    refine zv_iload_n dX10_lean_19 1 rfl ?_
    refine zv_iload_n dX10_lean_20 2 rfl ?_
    refine zv_rload_n dX10_lean_21 0 rfl ?_
    refine zv_iload_n dX10_lean_22 2 rfl ?_
    refine (zv_callVr [iv p2] (c_X10_viewAt κ.2.1 hw p0 p2 M0 hp0) zmd_X10_viewAt zwI_X10_viewAt zwS_X10_viewAt zwM_RX10_236 zcd_10 hp0 rfl (by decide) rfl (Nat.le_of_ble_eq_true rfl) dX10_lean_23 (fun M4 v3 _ => ?_))
    refine zv_gd (fun h5 => ?_)
    refine (zv_callVi [iv p1, iv p2, rn w (v3.toNat)] (c_X10_sumFish κ.2.1 hw p0 p1 p2 (v3.toNat) M4 hp0 h5) zmd_X10_sumFish zwI_X10_sumFish zwS_X10_sumFish zwM_RX10_303 zcd_10 hp0 rfl (by decide) rfl (Nat.le_of_ble_eq_true rfl) dX10_lean_26 (fun M7 v6 _ => ?_))
    exact zv_ret (fun h => h) (zv_iret dX10_lean_29)
  refine zv_iconst (z := (-1)) dX10_lean_16 ?_
  exact zv_ret (fun h => h) (zv_iret dX10_lean_17)
def f_X10_learnt (k : zK)  (p0 : Nat) (p1 : Int) (p2 : Int) (M0 : zM) : Option Int :=
  zb1 (f_X10_isKind k p1 M0) (fun v1 => zbr v1 0 (v1 = 0) (some (-1)) (zb1 (f_X10_isPart k p2 M0) (fun v3 => zbr v3 0 (¬ v3 = 0) (zbr p2 0 (¬ p2 = 0) (zgd (0 ≤ p1 ∧ p1 < 16) (some ((M0 (zfr k (zfr k p0 1) 4) p1.toNat) + 2))) (zgd (0 ≤ p1 ∧ p1 < 16) (some ((M0 (zfr k (zfr k p0 1) 5) p1.toNat) + 1)))) (some (-1)))))
theorem c_X10_learnt (l : Launch) {w : zW} (hw : zWk w)  (p0 : Nat) (p1 : Int) (p2 : Int) (M0 : zM) (hp0 : ztag w.1 p0 = 11) : zCn l yX10_learnt cX10_learnt 3 (some .int) (1) 1 w [rn w p0, iv p1, iv p2] M0 ((f_X10_learnt w.1 p0 p1 p2 M0).map fun v => (M0, v)) := by
  have hT := hw.1
  refine zCn_ofP (own := RX10) (by decide) rfl hw (Nat.le_of_ble_eq_true rfl) [(0, rn w p0), (1, iv p1), (2, iv p2)] rfl ?_
  intro κ hl
  subst hl
  unfold f_X10_learnt
  refine zv_iload_n dX10_learnt_0 1 rfl ?_
  refine zv_pc (zv_callSi [iv p1] (c_X10_isKind κ.2.1 hw p1 M0 ) zmd_X10_isKind zwT_X10_isKind zwM_RX10_126 rfl (by decide) rfl (Nat.le_of_ble_eq_true rfl) dX10_learnt_1 (fun mh2 v1 h2 => ?_))
  obtain rfl := zpuE h2
  refine zv_if_eq (tgt := 14) dX10_learnt_4 (by decide) ?_ ?_
  · refine zv_iconst (z := (-1)) dX10_learnt_14 ?_
    exact zv_ret (fun h => h) (zv_iret dX10_learnt_15)
  refine zv_iload_n dX10_learnt_7 2 rfl ?_
  refine zv_pc (zv_callSi [iv p2] (c_X10_isPart κ.2.1 hw p2 M0 ) zmd_X10_isPart zwT_X10_isPart zwM_RX10_200 rfl (by decide) rfl (Nat.le_of_ble_eq_true rfl) dX10_learnt_8 (fun mh4 v3 h4 => ?_))
  obtain rfl := zpuE h4
  refine zv_if_ne (tgt := 16) dX10_learnt_11 (by decide) ?_ ?_
  · refine zv_iload_n dX10_learnt_16 2 rfl ?_
    refine zv_if_ne (tgt := 34) dX10_learnt_17 (by decide) ?_ ?_
    · refine zv_rload_n dX10_learnt_34 0 rfl ?_
      refine zg_RX10_19 dX10_learnt_35 hp0 ?_
      refine zg_RX10_132 dX10_learnt_38 (zta_10_1 hT hp0) ?_
      refine zv_iload_n dX10_learnt_41 1 rfl ?_
      refine zv_iald dX10_learnt_42 (zta_7_4 hT (zta_10_1 hT hp0)) (ztl_7_4 hT (zta_10_1 hT hp0)) (by decide) ?_
      refine zv_iconst (z := 2) dX10_learnt_43 ?_
      refine zv_iadd dX10_learnt_44 ?_
      exact zv_ret (fun h => h) (zv_iret dX10_learnt_45)
    refine zv_rload_n dX10_learnt_20 0 rfl ?_
    refine zg_RX10_19 dX10_learnt_21 hp0 ?_
    refine zg_RX10_135 dX10_learnt_24 (zta_10_1 hT hp0) ?_
    refine zv_iload_n dX10_learnt_27 1 rfl ?_
    refine zv_iald dX10_learnt_28 (zta_7_5 hT (zta_10_1 hT hp0)) (ztl_7_5 hT (zta_10_1 hT hp0)) (by decide) ?_
    refine zv_iconst (z := 1) dX10_learnt_29 ?_
    refine zv_iadd dX10_learnt_30 ?_
    refine zv_goto (tgt := 45) dX10_learnt_31 (by decide) ?_
    exact zv_ret (fun h => h) (zv_iret dX10_learnt_45)
  refine zv_iconst (z := (-1)) dX10_learnt_14 ?_
  exact zv_ret (fun h => h) (zv_iret dX10_learnt_15)
def f_X10_left (k : zK)  (p0 : Nat) (p1 : Int) (p2 : Int) (p3 : Int) (M0 : zM) : Option (zM × Int) :=
  zb1 (f_X10_isCell k p1 M0) (fun v1 => zbr v1 0 (v1 = 0) (some (M0, (-1))) (zb1 (f_X10_isAge k p2 M0) (fun v3 => zbr v3 0 (v3 = 0) (some (M0, (-1))) (zb1 (f_X10_isPart k p3 M0) (fun v5 => zbr v5 0 (¬ v5 = 0) (zbd (f_X10_viewAt k p0 p2 M0) (fun M8 v7 => zgd (ztag k v7.toNat = 9) (zb1 (f_X10_reckonLeft k p0 p1 (v7.toNat) M8) (fun M10 => zb1 (f_X5_part k (zfr k p0 8) p3 M10) (fun v11 => some (M10, v11)))))) (some (M0, (-1))))))))
theorem c_X10_left (l : Launch) {w : zW} (hw : zWk w)  (p0 : Nat) (p1 : Int) (p2 : Int) (p3 : Int) (M0 : zM) (hp0 : ztag w.1 p0 = 11) : zCn l yX10_left cX10_left 4 (some .long) (6) 2 w [rn w p0, iv p1, iv p2, iv p3] M0 (f_X10_left w.1 p0 p1 p2 p3 M0) := by
  have hT := hw.1
  refine zCn_of (own := RX10) (by decide) rfl hw (Nat.le_of_ble_eq_true rfl) [(0, rn w p0), (1, iv p1), (2, iv p2), (3, iv p3)] rfl ?_
  intro κ hl
  subst hl
  unfold f_X10_left
  refine zv_iload_n dX10_left_0 1 rfl ?_
  refine zv_pc (zv_callSi [iv p1] (c_X10_isCell κ.2.1 hw p1 M0 ) zmd_X10_isCell zwT_X10_isCell zwM_RX10_92 rfl (by decide) rfl (Nat.le_of_ble_eq_true rfl) dX10_left_1 (fun mh2 v1 h2 => ?_))
  obtain rfl := zpuE h2
  refine zv_if_eq (tgt := 21) dX10_left_4 (by decide) ?_ ?_
  · refine zv_ldc2 (z := (-1)) dX10_left_21 zwK_RX10_279 (by decide) ?_
    exact zv_ret (fun h => h) (zv_lret dX10_left_24)
  refine zv_iload_n dX10_left_7 2 rfl ?_
  refine zv_pc (zv_callSi [iv p2] (c_X10_isAge κ.2.1 hw p2 M0 ) zmd_X10_isAge zwT_X10_isAge zwM_RX10_197 rfl (by decide) rfl (Nat.le_of_ble_eq_true rfl) dX10_left_8 (fun mh4 v3 h4 => ?_))
  obtain rfl := zpuE h4
  refine zv_if_eq (tgt := 21) dX10_left_11 (by decide) ?_ ?_
  · refine zv_ldc2 (z := (-1)) dX10_left_21 zwK_RX10_279 (by decide) ?_
    exact zv_ret (fun h => h) (zv_lret dX10_left_24)
  refine zv_iload_n dX10_left_14 3 rfl ?_
  refine zv_pc (zv_callSi [iv p3] (c_X10_isPart κ.2.1 hw p3 M0 ) zmd_X10_isPart zwT_X10_isPart zwM_RX10_200 rfl (by decide) rfl (Nat.le_of_ble_eq_true rfl) dX10_left_15 (fun mh6 v5 h6 => ?_))
  obtain rfl := zpuE h6
  refine zv_if_ne (tgt := 25) dX10_left_18 (by decide) ?_ ?_
  · refine zv_rload_n dX10_left_25 0 rfl ?_
    refine zv_iload_n dX10_left_26 1 rfl ?_
    refine zv_rload_n dX10_left_27 0 rfl ?_
    refine zv_iload_n dX10_left_28 2 rfl ?_
    refine (zv_callVr [iv p2] (c_X10_viewAt κ.2.1 hw p0 p2 M0 hp0) zmd_X10_viewAt zwI_X10_viewAt zwS_X10_viewAt zwM_RX10_236 zcd_10 hp0 rfl (by decide) rfl (Nat.le_of_ble_eq_true rfl) dX10_left_29 (fun M8 v7 _ => ?_))
    refine zv_gd (fun h9 => ?_)
    refine zv_vc (zv_callVv [iv p1, rn w (v7.toNat)] (c_X10_reckonLeft κ.2.1 hw p0 p1 (v7.toNat) M8 hp0 h9) zmd_X10_reckonLeft zwI_X10_reckonLeft zwS_X10_reckonLeft zwM_RX10_299 zcd_10 hp0 rfl (by decide) rfl (Nat.le_of_ble_eq_true rfl) dX10_left_32 (fun M10 _ _ => ?_))
    refine zv_rload_n dX10_left_35 0 rfl ?_
    refine zg_RX10_63 dX10_left_36 hp0 ?_
    refine zv_iload_n dX10_left_39 3 rfl ?_
    refine zv_pc (zv_callVl [iv p3] (c_X5_part κ.2.1 hw (zfr w.1 p0 8) p3 M10 (zta_10_8 hT hp0)) zmd_X5_part zwI_X5_part zwS_X5_part zwM_RX10_292 zcd_5 (zta_10_8 hT hp0) rfl (by decide) rfl (Nat.le_of_ble_eq_true rfl) dX10_left_40 (fun mh12 v11 h12 => ?_))
    obtain rfl := zpuE h12
    exact zv_ret (fun h => h) (zv_lret dX10_left_43)
  refine zv_ldc2 (z := (-1)) dX10_left_21 zwK_RX10_279 (by decide) ?_
  exact zv_ret (fun h => h) (zv_lret dX10_left_24)
def f_X10_letter (k : zK)  (p0 : Nat) (p1 : Int) (p2 : Int) (p3 : Int) (p4 : Int) (M0 : zM) : Option (zM × Int) :=
  zb1 (f_X10_isHeight k p2 M0) (fun v1 => zsp1 (zbr v1 0 (v1 = 0) (some (.inl M0)) (zb1 (f_X10_areAges k p3 p4 M0) (fun v3 => zbr v3 0 (¬ v3 = 0) (zbr (M0 (zfr k p0 1) 19) 40 (M0 (zfr k p0 1) 19 < 40) (zlt (M0 (zfr k p0 1) 19) (fun x5 => zb1 (zbr p1 0 (p1 = 0) (some (0)) (some (1))) (fun x6 => zgd (0 ≤ x5 ∧ x5 < 40) (zlt (zst M0 (zfr k (zfr k p0 1) 11) x5.toNat (x6)) (fun M7 => zgd (0 ≤ x5 ∧ x5 < 40) (zlt (zst M7 (zfr k (zfr k p0 1) 12) x5.toNat (p2)) (fun M8 => zgd (0 ≤ x5 ∧ x5 < 40) (zlt (zst M8 (zfr k (zfr k p0 1) 13) x5.toNat (p3)) (fun M9 => zgd (0 ≤ x5 ∧ x5 < 40) (zlt (zst M9 (zfr k (zfr k p0 1) 14) x5.toNat (p4)) (fun M10 => zlt (zst M10 (zfr k p0 1) 19 ((M10 (zfr k p0 1) 19) + 1)) (fun M11 => some (.inr (M11, M11 (zfr k p0 1) 19)))))))))))))) (zbd (f_X10_refuse k p0 1 M0) (fun M13 v12 => some (.inr (M13, v12))))) (some (.inl M0))))) (fun r => some r) (fun M14 => zbd (f_X10_refuse k p0 0 M14) (fun M16 v15 => some (M16, v15))))
set_option maxRecDepth 20000 in
theorem c_X10_letter (l : Launch) {w : zW} (hw : zWk w)  (p0 : Nat) (p1 : Int) (p2 : Int) (p3 : Int) (p4 : Int) (M0 : zM) (hp0 : ztag w.1 p0 = 11) : zCn l yX10_letter cX10_letter 6 (some .int) (2) 1 w [rn w p0, iv p1, iv p2, iv p3, iv p4] M0 (f_X10_letter w.1 p0 p1 p2 p3 p4 M0) := by
  have hT := hw.1
  refine zCn_of (own := RX10) (by decide) rfl hw (Nat.le_of_ble_eq_true rfl) [(0, rn w p0), (1, iv p1), (2, iv p2), (3, iv p3), (4, iv p4)] rfl ?_
  intro κ hl
  subst hl
  unfold f_X10_letter
  refine zv_iload_n dX10_letter_0 2 rfl ?_
  refine zv_pc (zv_callSi [iv p2] (c_X10_isHeight κ.2.1 hw p2 M0 ) zmd_X10_isHeight zwT_X10_isHeight zwM_RX10_96 rfl (by decide) rfl (Nat.le_of_ble_eq_true rfl) dX10_letter_1 (fun mh2 v1 h2 => ?_))
  obtain rfl := zpuE h2
  refine zv_joinS1 (fun r => r) 16 (fun M14 => [(0, rn w p0)]) (fun M14 => []) (fun M14 => M14) ?_ (fun M14 => ?_)
  · refine zv_if_eq (tgt := 16) dX10_letter_4 (by decide) ?_ ?_
    · exact zv_sub (L' := [(0, rn w p0)]) [0] rfl (zv_exit (fun h => h))
    refine zv_iload_n dX10_letter_7 3 rfl ?_
    refine zv_iload dX10_letter_8 4 rfl ?_
    refine zv_pc (zv_callSi [iv p3, iv p4] (c_X10_areAges κ.2.1 hw p3 p4 M0 ) zmd_X10_areAges zwT_X10_areAges zwM_RX10_144 rfl (by decide) rfl (Nat.le_of_ble_eq_true rfl) dX10_letter_10 (fun mh4 v3 h4 => ?_))
    obtain rfl := zpuE h4
    refine zv_if_ne (tgt := 22) dX10_letter_13 (by decide) ?_ ?_
    · refine zv_rload_n dX10_letter_22 0 rfl ?_
      refine zg_RX10_19 dX10_letter_23 hp0 ?_
      refine zg_RX10_178 dX10_letter_26 (zta_10_1 hT hp0) ?_
      refine zv_bipush (z := 40) dX10_letter_29 (by decide) ?_
      refine zv_icmp_lt (tgt := 40) dX10_letter_31 (by decide) ?_ ?_
      · refine zv_rload_n dX10_letter_40 0 rfl ?_
        refine zg_RX10_19 dX10_letter_41 hp0 ?_
        refine zg_RX10_178 dX10_letter_44 (zta_10_1 hT hp0) ?_
        refine zv_istore dX10_letter_47 (fun x5 => [(5, iv x5), (0, rn w p0), (1, iv p1), (2, iv p2), (3, iv p3), (4, iv p4)]) (by decide) (fun _ => rfl) (fun x5 => ?_)
        refine zv_rload_n dX10_letter_49 1 rfl ?_
        refine zg_RX10_19 dX10_letter_50 hp0 ?_
        refine zg_RX10_181 dX10_letter_53 (zta_10_1 hT hp0) ?_
        refine zv_iload dX10_letter_56 0 rfl ?_
        refine zv_iload_n dX10_letter_58 2 rfl ?_
        refine zv_join1 67 (fun x6 => [(5, iv x5), (0, rn w p0), (2, iv p2), (3, iv p3), (4, iv p4)]) (fun x6 => [iv x6, iv x5, rn w (zfr w.1 (zfr w.1 p0 1) 11)]) (fun x6 => M0) ?_ (fun x6 => ?_)
        · refine zv_if_eq (tgt := 66) dX10_letter_59 (by decide) ?_ ?_
          · refine zv_iconst (z := 0) dX10_letter_66 ?_
            exact zv_sub (L' := [(5, iv x5), (0, rn w p0), (2, iv p2), (3, iv p3), (4, iv p4)]) [0, 1, 3, 4, 5] rfl (zv_exit (fun h => h))
          refine zv_iconst (z := 1) dX10_letter_62 ?_
          refine zv_goto (tgt := 67) dX10_letter_63 (by decide) ?_
          exact zv_sub (L' := [(5, iv x5), (0, rn w p0), (2, iv p2), (3, iv p3), (4, iv p4)]) [0, 1, 3, 4, 5] rfl (zv_exit (fun h => h))
        refine zv_iast dX10_letter_67 (zta_7_11 hT (zta_10_1 hT hp0)) (ztl_7_11 hT (zta_10_1 hT hp0)) (by decide) (fun M7 => ?_)
        refine zv_rload_n dX10_letter_68 1 rfl ?_
        refine zg_RX10_19 dX10_letter_69 hp0 ?_
        refine zg_RX10_184 dX10_letter_72 (zta_10_1 hT hp0) ?_
        refine zv_iload dX10_letter_75 0 rfl ?_
        refine zv_iload_n dX10_letter_77 2 rfl ?_
        refine zv_iast dX10_letter_78 (zta_7_12 hT (zta_10_1 hT hp0)) (ztl_7_12 hT (zta_10_1 hT hp0)) (by decide) (fun M8 => ?_)
        refine zv_rload_n dX10_letter_79 1 rfl ?_
        refine zg_RX10_19 dX10_letter_80 hp0 ?_
        refine zg_RX10_187 dX10_letter_83 (zta_10_1 hT hp0) ?_
        refine zv_iload dX10_letter_86 0 rfl ?_
        refine zv_iload_n dX10_letter_88 3 rfl ?_
        refine zv_iast dX10_letter_89 (zta_7_13 hT (zta_10_1 hT hp0)) (ztl_7_13 hT (zta_10_1 hT hp0)) (by decide) (fun M9 => ?_)
        refine zv_rload_n dX10_letter_90 1 rfl ?_
        refine zg_RX10_19 dX10_letter_91 hp0 ?_
        refine zg_RX10_190 dX10_letter_94 (zta_10_1 hT hp0) ?_
        refine zv_iload dX10_letter_97 0 rfl ?_
        refine zv_iload dX10_letter_99 4 rfl ?_
        refine zv_iast dX10_letter_101 (zta_7_14 hT (zta_10_1 hT hp0)) (ztl_7_14 hT (zta_10_1 hT hp0)) (by decide) (fun M10 => ?_)
        refine zv_rload_n dX10_letter_102 1 rfl ?_
        refine zg_RX10_19 dX10_letter_103 hp0 ?_
        refine zv_dup dX10_letter_106 rfl ?_
        refine zg_RX10_178 dX10_letter_107 (zta_10_1 hT hp0) ?_
        refine zv_iconst (z := 1) dX10_letter_110 ?_
        refine zv_iadd dX10_letter_111 ?_
        refine zp_RX10_178 dX10_letter_112 (zta_10_1 hT hp0) (fun M11 => ?_)
        refine zv_rload_n dX10_letter_115 1 rfl ?_
        refine zg_RX10_19 dX10_letter_116 hp0 ?_
        refine zg_RX10_178 dX10_letter_119 (zta_10_1 hT hp0) ?_
        exact zv_ret (fun h => h) (zv_iret dX10_letter_122)
      refine zv_rload_n dX10_letter_34 0 rfl ?_
      refine zv_iconst (z := 1) dX10_letter_35 ?_
      refine (zv_callVi [iv 1] (c_X10_refuse κ.2.1 hw p0 1 M0 hp0) zmd_X10_refuse zwI_X10_refuse zwS_X10_refuse zwM_RX10_99 zcd_10 hp0 rfl (by decide) rfl (Nat.le_of_ble_eq_true rfl) dX10_letter_36 (fun M13 v12 _ => ?_))
      exact zv_ret (fun h => h) (zv_iret dX10_letter_39)
    exact zv_sub (L' := [(0, rn w p0)]) [0] rfl (zv_exit (fun h => h))
  refine zv_rload_n dX10_letter_16 0 rfl ?_
  refine zv_iconst (z := 0) dX10_letter_17 ?_
  refine (zv_callVi [iv 0] (c_X10_refuse κ.2.1 hw p0 0 M14 hp0) zmd_X10_refuse zwI_X10_refuse zwS_X10_refuse zwM_RX10_99 zcd_10 hp0 rfl (by decide) rfl (Nat.le_of_ble_eq_true rfl) dX10_letter_18 (fun M16 v15 _ => ?_))
  exact zv_ret (fun h => h) (zv_iret dX10_letter_21)
def fb_X10_levels_25 (k : zK)  (l0 : Nat) (l1 : Int) (l2 : Int) (M0 : zM) (y3 : Int) (y4 : Int) (y5 : Int) : Option ((Int × Int × Int) ⊕ (Int × Int)) :=
  zbr y5 (M0 (zfr k l0 1) 19) (M0 (zfr k l0 1) 19 ≤ y5) (some (.inr (y3, y4))) (zgd (0 ≤ y5 ∧ y5 < 40) (zb1 (zbr (M0 (zfr k (zfr k l0 1) 11) y5.toNat) 1 (¬ M0 (zfr k (zfr k l0 1) 11) y5.toNat = 1) (some (0)) (some (1))) (fun x5 => zb1 (zbr x5 0 (x5 = 0) (some (y4)) (zgd (0 ≤ y5 ∧ y5 < 40) (zbr (M0 (zfr k (zfr k l0 1) 13) y5.toNat) l1 (M0 (zfr k (zfr k l0 1) 13) y5.toNat < l1) (some (y4)) (zgd (0 ≤ y5 ∧ y5 < 40) (zgd (zr y4 ∧ zr ((M0 (zfr k (zfr k l0 1) 12) y5.toNat) - 1)) (zlt (zmin y4 ((M0 (zfr k (zfr k l0 1) 12) y5.toNat) - 1)) (fun x6 => some (x6)))))))) (fun x7 => zbr x5 0 (¬ x5 = 0) (zlt (y5 + 1) (fun x8 => some (.inl (y3, x7, x8)))) (zgd (0 ≤ y5 ∧ y5 < 40) (zbr (M0 (zfr k (zfr k l0 1) 14) y5.toNat) l1 (l1 < M0 (zfr k (zfr k l0 1) 14) y5.toNat) (zlt (y5 + 1) (fun x9 => some (.inl (y3, x7, x9)))) (zgd (0 ≤ y5 ∧ y5 < 40) (zgd (zr y3 ∧ zr (M0 (zfr k (zfr k l0 1) 12) y5.toNat)) (zlt (zmax y3 (M0 (zfr k (zfr k l0 1) 12) y5.toNat)) (fun x10 => zlt (y5 + 1) (fun x11 => some (.inl (x10, x7, x11)))))))))))))
def f_X10_levels (k : zK)  (p0 : Nat) (p1 : Int) (p2 : Int) (M0 : zM) : Option Int :=
  zb1 (f_X10_isAge k p1 M0) (fun v1 => zbr v1 0 (v1 = 0) (some (-1)) (zb1 (f_X10_isPart k p2 M0) (fun v3 => zbr v3 0 (¬ v3 = 0) (zb2 (zw3 (fb_X10_levels_25 k p0 p1 p2 M0) zfu 0 99 0) (fun x12 x13 => zbr x12 x13 (x12 ≤ x13) (zbr p2 0 (¬ p2 = 0) (some x13) (some x12)) (some (-1)))) (some (-1)))))
set_option maxRecDepth 20000 in
theorem vl_X10_levels_25 {κ : zC} {w : zW} (hw : zWk w)  (l0 : Nat) (l1 : Int) (l2 : Int) (g0 : ztag w.1 l0 = 11) (M0 : zM) (E : (Int × Int) → Prop) (hX : ∀ (u3 : Int) (u4 : Int), E (u3, u4) → zB cX10_levels RX10 7 (some .int) κ w (0, 0, 1) 136 [(2, iv l2), (3, iv u3), (4, iv u4)] [] M0)  (y3 : Int) (y4 : Int) (y5 : Int) :
    zV cX10_levels RX10 7 (some .int) κ w (0, 0, 1) 25 [(3, iv y3), (4, iv y4), (5, iv y5), (0, rn w l0), (1, iv l1), (2, iv l2)] [] M0 (zw3 (fb_X10_levels_25 w.1 l0 l1 l2 M0) zfu y3 y4 y5) E := by
  have hT := hw.1
  refine zv_loop3 (fun y3 y4 y5 => [(3, iv y3), (4, iv y4), (5, iv y5), (0, rn w l0), (1, iv l1), (2, iv l2)]) (fun y3 y4 y5 => M0) (fun y3 y4 y5 => ?_) y3 y4 y5
  unfold fb_X10_levels_25
  refine zv_iload dX10_levels_25 2 rfl ?_
  refine zv_rload_n dX10_levels_27 3 rfl ?_
  refine zg_RX10_19 dX10_levels_28 g0 ?_
  refine zg_RX10_178 dX10_levels_31 (zta_10_1 hT g0) ?_
  refine zv_icmp_ge (tgt := 136) dX10_levels_34 (by decide) ?_ ?_
  · exact zv_sub (L' := [(2, iv l2), (3, iv y3), (4, iv y4)]) [5, 0, 1] rfl (zv_exit (fun h => hX _ _ h))
  refine zv_rload_n dX10_levels_37 3 rfl ?_
  refine zg_RX10_19 dX10_levels_38 g0 ?_
  refine zg_RX10_181 dX10_levels_41 (zta_10_1 hT g0) ?_
  refine zv_iload dX10_levels_44 2 rfl ?_
  refine zv_iald dX10_levels_46 (zta_7_11 hT (zta_10_1 hT g0)) (ztl_7_11 hT (zta_10_1 hT g0)) (by decide) ?_
  refine zv_iconst (z := 1) dX10_levels_47 ?_
  refine zv_join1 56 (fun x5 => [(3, iv y3), (4, iv y4), (5, iv y5), (0, rn w l0), (1, iv l1), (2, iv l2)]) (fun x5 => [iv x5]) (fun x5 => M0) ?_ (fun x5 => ?_)
  · refine zv_icmp_ne (tgt := 55) dX10_levels_48 (by decide) ?_ ?_
    · refine zv_iconst (z := 0) dX10_levels_55 ?_
      exact zv_sub (L' := [(3, iv y3), (4, iv y4), (5, iv y5), (0, rn w l0), (1, iv l1), (2, iv l2)]) [0, 1, 2, 3, 4, 5] rfl (zv_exit (fun h => h))
    refine zv_iconst (z := 1) dX10_levels_51 ?_
    refine zv_goto (tgt := 56) dX10_levels_52 (by decide) ?_
    exact zv_sub (L' := [(3, iv y3), (4, iv y4), (5, iv y5), (0, rn w l0), (1, iv l1), (2, iv l2)]) [0, 1, 2, 3, 4, 5] rfl (zv_exit (fun h => h))
  refine zv_istore_p (L' := [(6, iv x5), (3, iv y3), (4, iv y4), (5, iv y5), (0, rn w l0), (1, iv l1), (2, iv l2)]) dX10_levels_56 (by decide) rfl ?_
  refine zv_iload dX10_levels_58 0 rfl ?_
  refine zv_join1 96 (fun x7 => [(4, iv x7), (6, iv x5), (3, iv y3), (5, iv y5), (0, rn w l0), (1, iv l1), (2, iv l2)]) (fun x7 => []) (fun x7 => M0) ?_ (fun x7 => ?_)
  · refine zv_if_eq (tgt := 96) dX10_levels_60 (by decide) ?_ ?_
    · exact zv_sub (L' := [(4, iv y4), (6, iv x5), (3, iv y3), (5, iv y5), (0, rn w l0), (1, iv l1), (2, iv l2)]) [2, 0, 1, 3, 4, 5, 6] rfl (zv_exit (fun h => h))
    refine zv_rload_n dX10_levels_63 4 rfl ?_
    refine zg_RX10_19 dX10_levels_64 g0 ?_
    refine zg_RX10_187 dX10_levels_67 (zta_10_1 hT g0) ?_
    refine zv_iload dX10_levels_70 3 rfl ?_
    refine zv_iald dX10_levels_72 (zta_7_13 hT (zta_10_1 hT g0)) (ztl_7_13 hT (zta_10_1 hT g0)) (by decide) ?_
    refine zv_iload_n dX10_levels_73 5 rfl ?_
    refine zv_icmp_lt (tgt := 96) dX10_levels_74 (by decide) ?_ ?_
    · exact zv_sub (L' := [(4, iv y4), (6, iv x5), (3, iv y3), (5, iv y5), (0, rn w l0), (1, iv l1), (2, iv l2)]) [2, 0, 1, 3, 4, 5, 6] rfl (zv_exit (fun h => h))
    refine zv_iload dX10_levels_77 2 rfl ?_
    refine zv_rload_n dX10_levels_79 4 rfl ?_
    refine zg_RX10_19 dX10_levels_80 g0 ?_
    refine zg_RX10_184 dX10_levels_83 (zta_10_1 hT g0) ?_
    refine zv_iload dX10_levels_86 3 rfl ?_
    refine zv_iald dX10_levels_88 (zta_7_12 hT (zta_10_1 hT g0)) (ztl_7_12 hT (zta_10_1 hT g0)) (by decide) ?_
    refine zv_iconst (z := 1) dX10_levels_89 ?_
    refine zv_isub dX10_levels_90 ?_
    refine zv_mmin zwM_RX10_385 (by decide) (Nat.le_of_ble_eq_true rfl) dX10_levels_91 ?_
    refine zv_istore dX10_levels_94 (fun x6 => [(4, iv x6), (6, iv x5), (3, iv y3), (5, iv y5), (0, rn w l0), (1, iv l1), (2, iv l2)]) (by decide) (fun _ => rfl) (fun x6 => ?_)
    exact zv_sub (L' := [(4, iv x6), (6, iv x5), (3, iv y3), (5, iv y5), (0, rn w l0), (1, iv l1), (2, iv l2)]) [0, 1, 2, 3, 4, 5, 6] rfl (zv_exit (fun h => h))
  refine zv_iload dX10_levels_96 1 rfl ?_
  refine zv_if_ne (tgt := 130) dX10_levels_98 (by decide) ?_ ?_
  · refine zv_iinc dX10_levels_130 3 rfl (fun x8 => [(5, iv x8), (4, iv x7), (6, iv x5), (3, iv y3), (0, rn w l0), (1, iv l1), (2, iv l2)]) (by decide) (fun _ => rfl) (fun x8 => ?_)
    refine zv_goto (tgt := 25) dX10_levels_133 (by decide) ?_
    exact zv_sub (L' := [(3, iv y3), (4, iv x7), (5, iv x8), (0, rn w l0), (1, iv l1), (2, iv l2)]) [3, 1, 0, 4, 5, 6] rfl (zv_exit (fun h => h))
  refine zv_rload_n dX10_levels_101 4 rfl ?_
  refine zg_RX10_19 dX10_levels_102 g0 ?_
  refine zg_RX10_190 dX10_levels_105 (zta_10_1 hT g0) ?_
  refine zv_iload dX10_levels_108 3 rfl ?_
  refine zv_iald dX10_levels_110 (zta_7_14 hT (zta_10_1 hT g0)) (ztl_7_14 hT (zta_10_1 hT g0)) (by decide) ?_
  refine zv_iload_n dX10_levels_111 5 rfl ?_
  refine zv_icmp_gt (tgt := 130) dX10_levels_112 (by decide) ?_ ?_
  · refine zv_iinc dX10_levels_130 3 rfl (fun x9 => [(5, iv x9), (4, iv x7), (6, iv x5), (3, iv y3), (0, rn w l0), (1, iv l1), (2, iv l2)]) (by decide) (fun _ => rfl) (fun x9 => ?_)
    refine zv_goto (tgt := 25) dX10_levels_133 (by decide) ?_
    exact zv_sub (L' := [(3, iv y3), (4, iv x7), (5, iv x9), (0, rn w l0), (1, iv l1), (2, iv l2)]) [3, 1, 0, 4, 5, 6] rfl (zv_exit (fun h => h))
  refine zv_iload_n dX10_levels_115 2 rfl ?_
  refine zv_rload_n dX10_levels_116 4 rfl ?_
  refine zg_RX10_19 dX10_levels_117 g0 ?_
  refine zg_RX10_184 dX10_levels_120 (zta_10_1 hT g0) ?_
  refine zv_iload dX10_levels_123 3 rfl ?_
  refine zv_iald dX10_levels_125 (zta_7_12 hT (zta_10_1 hT g0)) (ztl_7_12 hT (zta_10_1 hT g0)) (by decide) ?_
  refine zv_mmax zwM_RX10_369 (by decide) (Nat.le_of_ble_eq_true rfl) dX10_levels_126 ?_
  refine zv_istore_n (i := 3) (by rfl) dX10_levels_129 (fun x10 => [(3, iv x10), (4, iv x7), (6, iv x5), (5, iv y5), (0, rn w l0), (1, iv l1), (2, iv l2)]) (by decide) (fun _ => rfl) (fun x10 => ?_)
  refine zv_iinc dX10_levels_130 3 rfl (fun x11 => [(5, iv x11), (3, iv x10), (4, iv x7), (6, iv x5), (0, rn w l0), (1, iv l1), (2, iv l2)]) (by decide) (fun _ => rfl) (fun x11 => ?_)
  refine zv_goto (tgt := 25) dX10_levels_133 (by decide) ?_
  exact zv_sub (L' := [(3, iv x10), (4, iv x7), (5, iv x11), (0, rn w l0), (1, iv l1), (2, iv l2)]) [1, 2, 0, 4, 5, 6] rfl (zv_exit (fun h => h))
theorem c_X10_levels (l : Launch) {w : zW} (hw : zWk w)  (p0 : Nat) (p1 : Int) (p2 : Int) (M0 : zM) (hp0 : ztag w.1 p0 = 11) : zCn l yX10_levels cX10_levels 7 (some .int) (1) 1 w [rn w p0, iv p1, iv p2] M0 ((f_X10_levels w.1 p0 p1 p2 M0).map fun v => (M0, v)) := by
  have hT := hw.1
  refine zCn_ofP (own := RX10) (by decide) rfl hw (Nat.le_of_ble_eq_true rfl) [(0, rn w p0), (1, iv p1), (2, iv p2)] rfl ?_
  intro κ hl
  subst hl
  unfold f_X10_levels
  refine zv_iload_n dX10_levels_0 1 rfl ?_
  refine zv_pc (zv_callSi [iv p1] (c_X10_isAge κ.2.1 hw p1 M0 ) zmd_X10_isAge zwT_X10_isAge zwM_RX10_197 rfl (by decide) rfl (Nat.le_of_ble_eq_true rfl) dX10_levels_1 (fun mh2 v1 h2 => ?_))
  obtain rfl := zpuE h2
  refine zv_if_eq (tgt := 14) dX10_levels_4 (by decide) ?_ ?_
  · refine zv_iconst (z := (-1)) dX10_levels_14 ?_
    exact zv_ret (fun h => h) (zv_iret dX10_levels_15)
  refine zv_iload_n dX10_levels_7 2 rfl ?_
  refine zv_pc (zv_callSi [iv p2] (c_X10_isPart κ.2.1 hw p2 M0 ) zmd_X10_isPart zwT_X10_isPart zwM_RX10_200 rfl (by decide) rfl (Nat.le_of_ble_eq_true rfl) dX10_levels_8 (fun mh4 v3 h4 => ?_))
  obtain rfl := zpuE h4
  refine zv_if_ne (tgt := 16) dX10_levels_11 (by decide) ?_ ?_
  · refine zv_iconst (z := 0) dX10_levels_16 ?_
    refine zv_istore_np (L' := [(3, iv 0), (0, rn w p0), (1, iv p1), (2, iv p2)]) (by rfl) dX10_levels_17 (by decide) rfl ?_
    refine zv_bipush (z := 99) dX10_levels_18 (by decide) ?_
    refine zv_istore_p (L' := [(4, iv 99), (3, iv 0), (0, rn w p0), (1, iv p1), (2, iv p2)]) dX10_levels_20 (by decide) rfl ?_
    refine zv_iconst (z := 0) dX10_levels_22 ?_
    refine zv_istore_p (L' := [(5, iv 0), (4, iv 99), (3, iv 0), (0, rn w p0), (1, iv p1), (2, iv p2)]) dX10_levels_23 (by decide) rfl ?_
    refine zv_join2 136 (fun x12 x13 => [(2, iv p2), (3, iv x12), (4, iv x13)]) (fun x12 x13 => []) (fun x12 x13 => M0) (zv_sub (L' := [(3, iv 0), (4, iv 99), (5, iv 0), (0, rn w p0), (1, iv p1), (2, iv p2)]) [2, 1, 0, 3, 4, 5] rfl (vl_X10_levels_25 hw p0 p1 p2 hp0 M0 _ (fun _ _ h => h) 0 99 0)) (fun x12 x13 => ?_)
    refine zv_iload_n dX10_levels_136 1 rfl ?_
    refine zv_iload dX10_levels_137 2 rfl ?_
    refine zv_icmp_le (tgt := 144) dX10_levels_139 (by decide) ?_ ?_
    · refine zv_iload_n dX10_levels_144 0 rfl ?_
      refine zv_if_ne (tgt := 152) dX10_levels_145 (by decide) ?_ ?_
      · refine zv_iload dX10_levels_152 2 rfl ?_
        exact zv_ret (fun h => h) (zv_iret dX10_levels_154)
      refine zv_iload_n dX10_levels_148 1 rfl ?_
      refine zv_goto (tgt := 154) dX10_levels_149 (by decide) ?_
      exact zv_ret (fun h => h) (zv_iret dX10_levels_154)
    refine zv_iconst (z := (-1)) dX10_levels_142 ?_
    exact zv_ret (fun h => h) (zv_iret dX10_levels_143)
  refine zv_iconst (z := (-1)) dX10_levels_14 ?_
  exact zv_ret (fun h => h) (zv_iret dX10_levels_15)
def f_X10_lived (k : zK)  (p0 : Nat) (p1 : Int) (p2 : Int) (p3 : Int) (p4 : Int) (M0 : zM) : Option (zM × Int) :=
  zb1 (f_X10_isCell k p1 M0) (fun v1 => zbr v1 0 (v1 = 0) (some (M0, (-1))) (zb1 (f_X10_areAges k p2 p3 M0) (fun v3 => zbr v3 0 (v3 = 0) (some (M0, (-1))) (zb1 (f_X10_isPart k p4 M0) (fun v5 => zbr v5 0 (¬ v5 = 0) (zb1 (f_X10_settle k p0 M0) (fun M7 => zbd (f_X10_sumLives k p0 p2 p3 M7) (fun M9 v8 => zbl v8 0 (¬ v8 = 0) (zbd (f_X10_sumLivesIn k p0 p1 p2 p3 M9) (fun M11 v10 => zb1 (f_X5_put k (zfr k p0 8) v10 v8 M11) (fun M12 => zb1 (f_X5_part k (zfr k p0 8) p4 M12) (fun v13 => some (M12, v13))))) (some (M9, (-1)))))) (some (M0, (-1))))))))
theorem c_X10_lived (l : Launch) {w : zW} (hw : zWk w)  (p0 : Nat) (p1 : Int) (p2 : Int) (p3 : Int) (p4 : Int) (M0 : zM) (hp0 : ztag w.1 p0 = 11) : zCn l yX10_lived cX10_lived 7 (some .long) (6) 2 w [rn w p0, iv p1, iv p2, iv p3, iv p4] M0 (f_X10_lived w.1 p0 p1 p2 p3 p4 M0) := by
  have hT := hw.1
  refine zCn_of (own := RX10) (by decide) rfl hw (Nat.le_of_ble_eq_true rfl) [(0, rn w p0), (1, iv p1), (2, iv p2), (3, iv p3), (4, iv p4)] rfl ?_
  intro κ hl
  subst hl
  unfold f_X10_lived
  refine zv_iload_n dX10_lived_0 1 rfl ?_
  refine zv_pc (zv_callSi [iv p1] (c_X10_isCell κ.2.1 hw p1 M0 ) zmd_X10_isCell zwT_X10_isCell zwM_RX10_92 rfl (by decide) rfl (Nat.le_of_ble_eq_true rfl) dX10_lived_1 (fun mh2 v1 h2 => ?_))
  obtain rfl := zpuE h2
  refine zv_if_eq (tgt := 23) dX10_lived_4 (by decide) ?_ ?_
  · refine zv_ldc2 (z := (-1)) dX10_lived_23 zwK_RX10_279 (by decide) ?_
    exact zv_ret (fun h => h) (zv_lret dX10_lived_26)
  refine zv_iload_n dX10_lived_7 2 rfl ?_
  refine zv_iload_n dX10_lived_8 3 rfl ?_
  refine zv_pc (zv_callSi [iv p2, iv p3] (c_X10_areAges κ.2.1 hw p2 p3 M0 ) zmd_X10_areAges zwT_X10_areAges zwM_RX10_144 rfl (by decide) rfl (Nat.le_of_ble_eq_true rfl) dX10_lived_9 (fun mh4 v3 h4 => ?_))
  obtain rfl := zpuE h4
  refine zv_if_eq (tgt := 23) dX10_lived_12 (by decide) ?_ ?_
  · refine zv_ldc2 (z := (-1)) dX10_lived_23 zwK_RX10_279 (by decide) ?_
    exact zv_ret (fun h => h) (zv_lret dX10_lived_26)
  refine zv_iload dX10_lived_15 4 rfl ?_
  refine zv_pc (zv_callSi [iv p4] (c_X10_isPart κ.2.1 hw p4 M0 ) zmd_X10_isPart zwT_X10_isPart zwM_RX10_200 rfl (by decide) rfl (Nat.le_of_ble_eq_true rfl) dX10_lived_17 (fun mh6 v5 h6 => ?_))
  obtain rfl := zpuE h6
  refine zv_if_ne (tgt := 27) dX10_lived_20 (by decide) ?_ ?_
  · refine zv_rload_n dX10_lived_27 0 rfl ?_
    refine zv_vc (zv_callVv [] (c_X10_settle κ.2.1 hw p0 M0 hp0) zmd_X10_settle zwI_X10_settle zwS_X10_settle zwM_RX10_213 zcd_10 hp0 rfl (by decide) rfl (Nat.le_of_ble_eq_true rfl) dX10_lived_28 (fun M7 _ _ => ?_))
    refine zv_rload_n dX10_lived_31 0 rfl ?_
    refine zv_iload_n dX10_lived_32 2 rfl ?_
    refine zv_iload_n dX10_lived_33 3 rfl ?_
    refine (zv_callVl [iv p2, iv p3] (c_X10_sumLives κ.2.1 hw p0 p2 p3 M7 hp0) zmd_X10_sumLives zwI_X10_sumLives zwS_X10_sumLives zwM_RX10_281 zcd_10 hp0 rfl (by decide) rfl (Nat.le_of_ble_eq_true rfl) dX10_lived_34 (fun M9 v8 _ => ?_))
    refine zv_lstore_p (L' := [(5, jv v8), (0, rn w p0), (1, iv p1), (2, iv p2), (3, iv p3), (4, iv p4)]) dX10_lived_37 (by decide) rfl ?_
    refine zv_lload dX10_lived_39 0 rfl ?_
    refine zv_lconst (z := 0) dX10_lived_41 (by decide) ?_
    refine zv_lcmp_ne (tgt := 50) dX10_lived_42 dX10_lived_43 (by decide) ?_ ?_
    · refine zv_rload_n dX10_lived_50 1 rfl ?_
      refine zg_RX10_63 dX10_lived_51 hp0 ?_
      refine zv_rload_n dX10_lived_54 1 rfl ?_
      refine zv_iload_n dX10_lived_55 2 rfl ?_
      refine zv_iload_n dX10_lived_56 3 rfl ?_
      refine zv_iload_n dX10_lived_57 4 rfl ?_
      refine (zv_callVl [iv p1, iv p2, iv p3] (c_X10_sumLivesIn κ.2.1 hw p0 p1 p2 p3 M9 hp0) zmd_X10_sumLivesIn zwI_X10_sumLivesIn zwS_X10_sumLivesIn zwM_RX10_285 zcd_10 hp0 rfl (by decide) rfl (Nat.le_of_ble_eq_true rfl) dX10_lived_58 (fun M11 v10 _ => ?_))
      refine zv_lload dX10_lived_61 0 rfl ?_
      refine zv_vc (zv_callVv [jv v10, jv v8] (c_X5_put κ.2.1 hw (zfr w.1 p0 8) v10 v8 M11 (zta_10_8 hT hp0)) zmd_X5_put zwI_X5_put zwS_X5_put zwM_RX10_289 zcd_5 (zta_10_8 hT hp0) rfl (by decide) rfl (Nat.le_of_ble_eq_true rfl) dX10_lived_63 (fun M12 _ _ => ?_))
      refine zv_rload_n dX10_lived_66 1 rfl ?_
      refine zg_RX10_63 dX10_lived_67 hp0 ?_
      refine zv_iload dX10_lived_70 5 rfl ?_
      refine zv_pc (zv_callVl [iv p4] (c_X5_part κ.2.1 hw (zfr w.1 p0 8) p4 M12 (zta_10_8 hT hp0)) zmd_X5_part zwI_X5_part zwS_X5_part zwM_RX10_292 zcd_5 (zta_10_8 hT hp0) rfl (by decide) rfl (Nat.le_of_ble_eq_true rfl) dX10_lived_72 (fun mh14 v13 h14 => ?_))
      obtain rfl := zpuE h14
      exact zv_ret (fun h => h) (zv_lret dX10_lived_75)
    refine zv_ldc2 (z := (-1)) dX10_lived_46 zwK_RX10_279 (by decide) ?_
    exact zv_ret (fun h => h) (zv_lret dX10_lived_49)
  refine zv_ldc2 (z := (-1)) dX10_lived_23 zwK_RX10_279 (by decide) ?_
  exact zv_ret (fun h => h) (zv_lret dX10_lived_26)
def f_X10_mud (k : zK)  (p0 : Nat) (p1 : Int) (p2 : Int) (M0 : zM) : Option (zM × Int) :=
  zb1 (f_X10_isCell k p1 M0) (fun v1 => zbr v1 0 (¬ v1 = 0) (zgd (0 ≤ p1 ∧ p1 < 256) (zsp1 (zbr (M0 (zfr k (zfr k p0 1) 3) p1.toNat) (-1) (¬ M0 (zfr k (zfr k p0 1) 3) p1.toNat = (-1)) (some (.inl M0)) (zbr (M0 (zfr k p0 1) 15) 40 (M0 (zfr k p0 1) 15 < 40) (zlt (zst M0 (zfr k p0 1) 15 ((M0 (zfr k p0 1) 15) + 1)) (fun M3 => some (.inl M3))) (zbd (f_X10_refuse k p0 1 M0) (fun M5 v4 => some (.inr (M5, v4)))))) (fun r => some r) (fun M6 => zb1 (zbr p2 0 (p2 = 0) (some (0)) (some (1))) (fun x7 => zgd (0 ≤ p1 ∧ p1 < 256) (zlt (zst M6 (zfr k (zfr k p0 1) 3) p1.toNat (x7)) (fun M8 => some (M8, M8 (zfr k p0 1) 15))))))) (zbd (f_X10_refuse k p0 0 M0) (fun M10 v9 => some (M10, v9))))
theorem c_X10_mud (l : Launch) {w : zW} (hw : zWk w)  (p0 : Nat) (p1 : Int) (p2 : Int) (M0 : zM) (hp0 : ztag w.1 p0 = 11) : zCn l yX10_mud cX10_mud 3 (some .int) (1) 1 w [rn w p0, iv p1, iv p2] M0 (f_X10_mud w.1 p0 p1 p2 M0) := by
  have hT := hw.1
  refine zCn_of (own := RX10) (by decide) rfl hw (Nat.le_of_ble_eq_true rfl) [(0, rn w p0), (1, iv p1), (2, iv p2)] rfl ?_
  intro κ hl
  subst hl
  unfold f_X10_mud
  refine zv_iload_n dX10_mud_0 1 rfl ?_
  refine zv_pc (zv_callSi [iv p1] (c_X10_isCell κ.2.1 hw p1 M0 ) zmd_X10_isCell zwT_X10_isCell zwM_RX10_92 rfl (by decide) rfl (Nat.le_of_ble_eq_true rfl) dX10_mud_1 (fun mh2 v1 h2 => ?_))
  obtain rfl := zpuE h2
  refine zv_if_ne (tgt := 13) dX10_mud_4 (by decide) ?_ ?_
  · refine zv_rload_n dX10_mud_13 0 rfl ?_
    refine zg_RX10_19 dX10_mud_14 hp0 ?_
    refine zg_RX10_163 dX10_mud_17 (zta_10_1 hT hp0) ?_
    refine zv_iload_n dX10_mud_20 1 rfl ?_
    refine zv_iald dX10_mud_21 (zta_7_3 hT (zta_10_1 hT hp0)) (ztl_7_3 hT (zta_10_1 hT hp0)) (by decide) ?_
    refine zv_iconst (z := (-1)) dX10_mud_22 ?_
    refine zv_joinS1 (fun r => r) 57 (fun M6 => [(0, rn w p0), (1, iv p1), (2, iv p2)]) (fun M6 => []) (fun M6 => M6) ?_ (fun M6 => ?_)
    · refine zv_icmp_ne (tgt := 57) dX10_mud_23 (by decide) ?_ ?_
      · exact zv_sub (L' := [(0, rn w p0), (1, iv p1), (2, iv p2)]) [0, 1, 2] rfl (zv_exit (fun h => h))
      refine zv_rload_n dX10_mud_26 0 rfl ?_
      refine zg_RX10_19 dX10_mud_27 hp0 ?_
      refine zg_RX10_166 dX10_mud_30 (zta_10_1 hT hp0) ?_
      refine zv_bipush (z := 40) dX10_mud_33 (by decide) ?_
      refine zv_icmp_lt (tgt := 44) dX10_mud_35 (by decide) ?_ ?_
      · refine zv_rload_n dX10_mud_44 0 rfl ?_
        refine zg_RX10_19 dX10_mud_45 hp0 ?_
        refine zv_dup dX10_mud_48 rfl ?_
        refine zg_RX10_166 dX10_mud_49 (zta_10_1 hT hp0) ?_
        refine zv_iconst (z := 1) dX10_mud_52 ?_
        refine zv_iadd dX10_mud_53 ?_
        refine zp_RX10_166 dX10_mud_54 (zta_10_1 hT hp0) (fun M3 => ?_)
        exact zv_sub (L' := [(0, rn w p0), (1, iv p1), (2, iv p2)]) [0, 1, 2] rfl (zv_exit (fun h => h))
      refine zv_rload_n dX10_mud_38 0 rfl ?_
      refine zv_iconst (z := 1) dX10_mud_39 ?_
      refine (zv_callVi [iv 1] (c_X10_refuse κ.2.1 hw p0 1 M0 hp0) zmd_X10_refuse zwI_X10_refuse zwS_X10_refuse zwM_RX10_99 zcd_10 hp0 rfl (by decide) rfl (Nat.le_of_ble_eq_true rfl) dX10_mud_40 (fun M5 v4 _ => ?_))
      exact zv_ret (fun h => h) (zv_iret dX10_mud_43)
    refine zv_rload_n dX10_mud_57 0 rfl ?_
    refine zg_RX10_19 dX10_mud_58 hp0 ?_
    refine zg_RX10_163 dX10_mud_61 (zta_10_1 hT hp0) ?_
    refine zv_iload_n dX10_mud_64 1 rfl ?_
    refine zv_iload_n dX10_mud_65 2 rfl ?_
    refine zv_join1 74 (fun x7 => [(0, rn w p0)]) (fun x7 => [iv x7, iv p1, rn w (zfr w.1 (zfr w.1 p0 1) 3)]) (fun x7 => M6) ?_ (fun x7 => ?_)
    · refine zv_if_eq (tgt := 73) dX10_mud_66 (by decide) ?_ ?_
      · refine zv_iconst (z := 0) dX10_mud_73 ?_
        exact zv_sub (L' := [(0, rn w p0)]) [0] rfl (zv_exit (fun h => h))
      refine zv_iconst (z := 1) dX10_mud_69 ?_
      refine zv_goto (tgt := 74) dX10_mud_70 (by decide) ?_
      exact zv_sub (L' := [(0, rn w p0)]) [0] rfl (zv_exit (fun h => h))
    refine zv_iast dX10_mud_74 (zta_7_3 hT (zta_10_1 hT hp0)) (ztl_7_3 hT (zta_10_1 hT hp0)) (by decide) (fun M8 => ?_)
    refine zv_rload_n dX10_mud_75 0 rfl ?_
    refine zg_RX10_19 dX10_mud_76 hp0 ?_
    refine zg_RX10_166 dX10_mud_79 (zta_10_1 hT hp0) ?_
    exact zv_ret (fun h => h) (zv_iret dX10_mud_82)
  refine zv_rload_n dX10_mud_7 0 rfl ?_
  refine zv_iconst (z := 0) dX10_mud_8 ?_
  refine (zv_callVi [iv 0] (c_X10_refuse κ.2.1 hw p0 0 M0 hp0) zmd_X10_refuse zwI_X10_refuse zwS_X10_refuse zwM_RX10_99 zcd_10 hp0 rfl (by decide) rfl (Nat.le_of_ble_eq_true rfl) dX10_mud_9 (fun M10 v9 _ => ?_))
  exact zv_ret (fun h => h) (zv_iret dX10_mud_12)
def f_X10_offTogether (k : zK)  (p0 : Int) (p1 : Int) (M0 : zM) : Option Int :=
  zbr p1 1 (1 ≤ p1) (zgd ((0 ≤ 1000 * p0 ∧ 1000 * p0 ≤ 2147483647) ∧ 0 < p1 + 1 ∧ p1 + 1 ≤ 2147483647) (zlt (1000 - ((1000 * p0) / (p1 + 1))) (fun x1 => zgd ((0 ≤ 1000 * (p0 + 1) ∧ 1000 * (p0 + 1) ≤ 2147483647) ∧ 0 < p1 + 1 ∧ p1 + 1 ≤ 2147483647) (zlt ((1000 * (p0 + 1)) / (p1 + 1)) (fun x2 => some ((p0 * x1) + ((p1 - p0) * x2))))))) (some 0)
theorem c_X10_offTogether (l : Launch) {w : zW} (hw : zWk w)  (p0 : Int) (p1 : Int) (M0 : zM)  : zCn l yX10_offTogether cX10_offTogether 4 (some .int) (0) 1 w [iv p0, iv p1] M0 ((f_X10_offTogether w.1 p0 p1 M0).map fun v => (M0, v)) := by
  have hT := hw.1
  refine zCn_ofP (own := RX10) (by decide) rfl hw (Nat.le_of_ble_eq_true rfl) [(0, iv p0), (1, iv p1)] rfl ?_
  intro κ hl
  subst hl
  unfold f_X10_offTogether
  refine zv_iload_n dX10_offTogether_0 1 rfl ?_
  refine zv_iconst (z := 1) dX10_offTogether_1 ?_
  refine zv_icmp_ge (tgt := 7) dX10_offTogether_2 (by decide) ?_ ?_
  · refine zv_sipush (z := 1000) dX10_offTogether_7 (by decide) ?_
    refine zv_sipush (z := 1000) dX10_offTogether_10 (by decide) ?_
    refine zv_iload_n dX10_offTogether_13 0 rfl ?_
    refine zv_imul dX10_offTogether_14 ?_
    refine zv_iload_n dX10_offTogether_15 1 rfl ?_
    refine zv_iconst (z := 1) dX10_offTogether_16 ?_
    refine zv_iadd dX10_offTogether_17 ?_
    refine zv_idiv dX10_offTogether_18 ?_
    refine zv_isub dX10_offTogether_19 ?_
    refine zv_istore_n (i := 2) (by rfl) dX10_offTogether_20 (fun x1 => [(2, iv x1), (0, iv p0), (1, iv p1)]) (by decide) (fun _ => rfl) (fun x1 => ?_)
    refine zv_sipush (z := 1000) dX10_offTogether_21 (by decide) ?_
    refine zv_iload_n dX10_offTogether_24 1 rfl ?_
    refine zv_iconst (z := 1) dX10_offTogether_25 ?_
    refine zv_iadd dX10_offTogether_26 ?_
    refine zv_imul dX10_offTogether_27 ?_
    refine zv_iload_n dX10_offTogether_28 2 rfl ?_
    refine zv_iconst (z := 1) dX10_offTogether_29 ?_
    refine zv_iadd dX10_offTogether_30 ?_
    refine zv_idiv dX10_offTogether_31 ?_
    refine zv_istore_n (i := 3) (by rfl) dX10_offTogether_32 (fun x2 => [(3, iv x2), (2, iv x1), (0, iv p0), (1, iv p1)]) (by decide) (fun _ => rfl) (fun x2 => ?_)
    refine zv_iload_n dX10_offTogether_33 2 rfl ?_
    refine zv_iload_n dX10_offTogether_34 1 rfl ?_
    refine zv_imul dX10_offTogether_35 ?_
    refine zv_iload_n dX10_offTogether_36 3 rfl ?_
    refine zv_iload_n dX10_offTogether_37 2 rfl ?_
    refine zv_isub dX10_offTogether_38 ?_
    refine zv_iload_n dX10_offTogether_39 0 rfl ?_
    refine zv_imul dX10_offTogether_40 ?_
    refine zv_iadd dX10_offTogether_41 ?_
    exact zv_ret (fun h => h) (zv_iret dX10_offTogether_42)
  refine zv_iconst (z := 0) dX10_offTogether_5 ?_
  exact zv_ret (fun h => h) (zv_iret dX10_offTogether_6)
def f_X10_place (k : zK)  (p0 : Nat) (p1 : Int) (M0 : zM) : Option (zM × Int) :=
  zb1 (f_X10_isCell k p1 M0) (fun v1 => zsp1 (zbr v1 0 (v1 = 0) (some (.inl M0)) (zb1 (f_X7_isPlace k (zfr k p0 1) p1 M0) (fun v3 => zbr v3 0 (v3 = 0) (zbr (M0 (zfr k p0 1) 18) 10 (M0 (zfr k p0 1) 18 < 10) (zlt (M0 (zfr k p0 1) 18) (fun x5 => zgd (0 ≤ x5 ∧ x5 < 10) (zlt (zst M0 (zfr k (zfr k p0 1) 10) x5.toNat (p1)) (fun M6 => zlt (zst M6 (zfr k p0 1) 18 ((M6 (zfr k p0 1) 18) + 1)) (fun M7 => zb1 (f_X9_forget k (zfr k p0 7) M7) (fun M8 => some (.inr (M8, x5)))))))) (zbd (f_X10_refuse k p0 1 M0) (fun M10 v9 => some (.inr (M10, v9))))) (some (.inl M0))))) (fun r => some r) (fun M11 => zbd (f_X10_refuse k p0 0 M11) (fun M13 v12 => some (M13, v12))))
theorem c_X10_place (l : Launch) {w : zW} (hw : zWk w)  (p0 : Nat) (p1 : Int) (M0 : zM) (hp0 : ztag w.1 p0 = 11) : zCn l yX10_place cX10_place 3 (some .int) (1) 1 w [rn w p0, iv p1] M0 (f_X10_place w.1 p0 p1 M0) := by
  have hT := hw.1
  refine zCn_of (own := RX10) (by decide) rfl hw (Nat.le_of_ble_eq_true rfl) [(0, rn w p0), (1, iv p1)] rfl ?_
  intro κ hl
  subst hl
  unfold f_X10_place
  refine zv_iload_n dX10_place_0 1 rfl ?_
  refine zv_pc (zv_callSi [iv p1] (c_X10_isCell κ.2.1 hw p1 M0 ) zmd_X10_isCell zwT_X10_isCell zwM_RX10_92 rfl (by decide) rfl (Nat.le_of_ble_eq_true rfl) dX10_place_1 (fun mh2 v1 h2 => ?_))
  obtain rfl := zpuE h2
  refine zv_joinS1 (fun r => r) 18 (fun M11 => [(0, rn w p0)]) (fun M11 => []) (fun M11 => M11) ?_ (fun M11 => ?_)
  · refine zv_if_eq (tgt := 18) dX10_place_4 (by decide) ?_ ?_
    · exact zv_sub (L' := [(0, rn w p0)]) [0] rfl (zv_exit (fun h => h))
    refine zv_rload_n dX10_place_7 0 rfl ?_
    refine zg_RX10_19 dX10_place_8 hp0 ?_
    refine zv_iload_n dX10_place_11 1 rfl ?_
    refine zv_pc (zv_callVi [iv p1] (c_X7_isPlace κ.2.1 hw (zfr w.1 p0 1) p1 M0 (zta_10_1 hT hp0)) zmd_X7_isPlace zwI_X7_isPlace zwS_X7_isPlace zwM_RX10_169 zcd_7 (zta_10_1 hT hp0) rfl (by decide) rfl (Nat.le_of_ble_eq_true rfl) dX10_place_12 (fun mh4 v3 h4 => ?_))
    obtain rfl := zpuE h4
    refine zv_if_eq (tgt := 24) dX10_place_15 (by decide) ?_ ?_
    · refine zv_rload_n dX10_place_24 0 rfl ?_
      refine zg_RX10_19 dX10_place_25 hp0 ?_
      refine zg_RX10_172 dX10_place_28 (zta_10_1 hT hp0) ?_
      refine zv_bipush (z := 10) dX10_place_31 (by decide) ?_
      refine zv_icmp_lt (tgt := 42) dX10_place_33 (by decide) ?_ ?_
      · refine zv_rload_n dX10_place_42 0 rfl ?_
        refine zg_RX10_19 dX10_place_43 hp0 ?_
        refine zg_RX10_172 dX10_place_46 (zta_10_1 hT hp0) ?_
        refine zv_istore_n (i := 2) (by rfl) dX10_place_49 (fun x5 => [(2, iv x5), (0, rn w p0), (1, iv p1)]) (by decide) (fun _ => rfl) (fun x5 => ?_)
        refine zv_rload_n dX10_place_50 1 rfl ?_
        refine zg_RX10_19 dX10_place_51 hp0 ?_
        refine zg_RX10_175 dX10_place_54 (zta_10_1 hT hp0) ?_
        refine zv_iload_n dX10_place_57 0 rfl ?_
        refine zv_iload_n dX10_place_58 2 rfl ?_
        refine zv_iast dX10_place_59 (zta_7_10 hT (zta_10_1 hT hp0)) (ztl_7_10 hT (zta_10_1 hT hp0)) (by decide) (fun M6 => ?_)
        refine zv_rload_n dX10_place_60 1 rfl ?_
        refine zg_RX10_19 dX10_place_61 hp0 ?_
        refine zv_dup dX10_place_64 rfl ?_
        refine zg_RX10_172 dX10_place_65 (zta_10_1 hT hp0) ?_
        refine zv_iconst (z := 1) dX10_place_68 ?_
        refine zv_iadd dX10_place_69 ?_
        refine zp_RX10_172 dX10_place_70 (zta_10_1 hT hp0) (fun M7 => ?_)
        refine zv_rload_n dX10_place_73 1 rfl ?_
        refine zg_RX10_56 dX10_place_74 hp0 ?_
        refine zv_vc (zv_callVv [] (c_X9_forget κ.2.1 hw (zfr w.1 p0 7) M7 (zta_10_7 hT hp0)) zmd_X9_forget zwI_X9_forget zwS_X9_forget zwM_RX10_138 zcd_9 (zta_10_7 hT hp0) rfl (by decide) rfl (Nat.le_of_ble_eq_true rfl) dX10_place_77 (fun M8 _ _ => ?_))
        refine zv_iload_n dX10_place_80 0 rfl ?_
        exact zv_ret (fun h => h) (zv_iret dX10_place_81)
      refine zv_rload_n dX10_place_36 0 rfl ?_
      refine zv_iconst (z := 1) dX10_place_37 ?_
      refine (zv_callVi [iv 1] (c_X10_refuse κ.2.1 hw p0 1 M0 hp0) zmd_X10_refuse zwI_X10_refuse zwS_X10_refuse zwM_RX10_99 zcd_10 hp0 rfl (by decide) rfl (Nat.le_of_ble_eq_true rfl) dX10_place_38 (fun M10 v9 _ => ?_))
      exact zv_ret (fun h => h) (zv_iret dX10_place_41)
    exact zv_sub (L' := [(0, rn w p0)]) [0] rfl (zv_exit (fun h => h))
  refine zv_rload_n dX10_place_18 0 rfl ?_
  refine zv_iconst (z := 0) dX10_place_19 ?_
  refine (zv_callVi [iv 0] (c_X10_refuse κ.2.1 hw p0 0 M11 hp0) zmd_X10_refuse zwI_X10_refuse zwS_X10_refuse zwM_RX10_99 zcd_10 hp0 rfl (by decide) rfl (Nat.le_of_ble_eq_true rfl) dX10_place_20 (fun M13 v12 _ => ?_))
  exact zv_ret (fun h => h) (zv_iret dX10_place_23)
def fb_X1_countParts_4 (k : zK)  (l0 : Nat) (y1 : Int) (y2 : Int) (M0 : zM) : Option ((Int × Int × zM) ⊕ (Int × zM)) :=
  zbr y2 256 (256 ≤ y2) (some (.inr (y1, M0))) (zbd (f_X1_spread k l0 y2 M0) (fun M2 v1 => zbr v1 0 (v1 ≤ 0) (zlt (y2 + 1) (fun x3 => some (.inl (y1, x3, M2)))) (zlt (y1 + 1) (fun x4 => zlt (y2 + 1) (fun x5 => some (.inl (x4, x5, M2)))))))
def f_X1_countParts (k : zK)  (p0 : Nat) (M0 : zM) : Option (zM × Int) :=
  zb2 (zw3 (fb_X1_countParts_4 k p0) zfu 0 0 M0) (fun x6 M7 => some (M7, x6))
theorem vl_X1_countParts_4 {κ : zC} {w : zW} (hw : zWk w)  (l0 : Nat) (g0 : ztag w.1 l0 = 2)  (E : (Int × zM) → Prop) (hX : ∀ (u1 : Int) (M1 : zM), E (u1, M1) → zB cX1_countParts RX1 3 (some .int) κ w (0, 0, 2) 28 [(1, iv u1)] [] M1)  (y1 : Int) (y2 : Int) (M0 : zM) :
    zV cX1_countParts RX1 3 (some .int) κ w (0, 0, 2) 4 [(1, iv y1), (2, iv y2), (0, rn w l0)] [] M0 (zw3 (fb_X1_countParts_4 w.1 l0) zfu y1 y2 M0) E := by
  have hT := hw.1
  refine zv_loop3 (fun y1 y2 M0 => [(1, iv y1), (2, iv y2), (0, rn w l0)]) (fun y1 y2 M0 => M0) (fun y1 y2 M0 => ?_) y1 y2 M0
  unfold fb_X1_countParts_4
  refine zv_iload_n dX1_countParts_4 1 rfl ?_
  refine zv_sipush (z := 256) dX1_countParts_5 (by decide) ?_
  refine zv_icmp_ge (tgt := 28) dX1_countParts_8 (by decide) ?_ ?_
  · exact zv_sub (L' := [(1, iv y1)]) [0] rfl (zv_exit (fun h => hX _ _ h))
  refine zv_rload_n dX1_countParts_11 2 rfl ?_
  refine zv_iload_n dX1_countParts_12 1 rfl ?_
  refine (zv_callVi [iv y2] (c_X1_spread κ.2.1 hw l0 y2 M0 g0) zmd_X1_spread zwI_X1_spread zwS_X1_spread zwM_RX1_23 zcd_1 g0 rfl (by decide) rfl (Nat.le_of_ble_eq_true rfl) dX1_countParts_13 (fun M2 v1 _ => ?_))
  refine zv_if_le (tgt := 22) dX1_countParts_16 (by decide) ?_ ?_
  · refine zv_iinc dX1_countParts_22 1 rfl (fun x3 => [(2, iv x3), (1, iv y1), (0, rn w l0)]) (by decide) (fun _ => rfl) (fun x3 => ?_)
    refine zv_goto (tgt := 4) dX1_countParts_25 (by decide) ?_
    exact zv_sub (L' := [(1, iv y1), (2, iv x3), (0, rn w l0)]) [1, 0, 2] rfl (zv_exit (fun h => h))
  refine zv_iinc dX1_countParts_19 0 rfl (fun x4 => [(1, iv x4), (2, iv y2), (0, rn w l0)]) (by decide) (fun _ => rfl) (fun x4 => ?_)
  refine zv_iinc dX1_countParts_22 1 rfl (fun x5 => [(2, iv x5), (1, iv x4), (0, rn w l0)]) (by decide) (fun _ => rfl) (fun x5 => ?_)
  refine zv_goto (tgt := 4) dX1_countParts_25 (by decide) ?_
  exact zv_sub (L' := [(1, iv x4), (2, iv x5), (0, rn w l0)]) [1, 0, 2] rfl (zv_exit (fun h => h))
theorem c_X1_countParts (l : Launch) {w : zW} (hw : zWk w)  (p0 : Nat) (M0 : zM) (hp0 : ztag w.1 p0 = 2) : zCn l yX1_countParts cX1_countParts 3 (some .int) (2) 1 w [rn w p0] M0 (f_X1_countParts w.1 p0 M0) := by
  have hT := hw.1
  refine zCn_of (own := RX1) (by decide) rfl hw (Nat.le_of_ble_eq_true rfl) [(0, rn w p0)] rfl ?_
  intro κ hl
  subst hl
  unfold f_X1_countParts
  refine zv_iconst (z := 0) dX1_countParts_0 ?_
  refine zv_istore_np (L' := [(1, iv 0), (0, rn w p0)]) (by rfl) dX1_countParts_1 (by decide) rfl ?_
  refine zv_iconst (z := 0) dX1_countParts_2 ?_
  refine zv_istore_np (L' := [(2, iv 0), (1, iv 0), (0, rn w p0)]) (by rfl) dX1_countParts_3 (by decide) rfl ?_
  refine zv_join2 28 (fun x6 M7 => [(1, iv x6)]) (fun x6 M7 => []) (fun x6 M7 => M7) (zv_sub (L' := [(1, iv 0), (2, iv 0), (0, rn w p0)]) [1, 0, 2] rfl (vl_X1_countParts_4 hw p0 hp0 _ (fun _ _ h => h) 0 0 M0)) (fun x6 M7 => ?_)
  refine zv_iload_n dX1_countParts_28 0 rfl ?_
  exact zv_ret (fun h => h) (zv_iret dX1_countParts_29)
def fb_X10_rest_44 (k : zK)  (l0 : Nat) (l2 : Int) (l3 : Int) (l4 : Int) (l5 : Nat) (y6 : Int) (y7 : Int) (y8 : Int) (M0 : zM) : Option ((Int × Int × Int × zM) ⊕ (Int × Int × zM)) :=
  zbr y8 256 (256 ≤ y8) (some (.inr (y6, y7, M0))) (zgd (0 ≤ y8 ∧ y8 < 256) (zsp4 (zbr (M0 (zfr k l5 0) y8.toNat) 0 (M0 (zfr k l5 0) y8.toNat = 0) (some (.inl (y6, y7, y8, M0))) (zb1 (f_X8_standsTo k l5 y8 l3 M0) (fun v8 => zbr v8 l2 (v8 < l2) (some (.inl (y6, y7, y8, M0))) (zgd (((1 : Int) = 0 ∨ (1 : Int) = 1) ∧ 0 ≤ y8 ∧ y8 < 256) (zlt (zst M0 (zfr k (zfr k l0 6) 0) y8.toNat (1)) (fun M10 => zb1 (zbr 1 0 ((1 : Int) = 0) (some (0)) (some (1))) (fun x11 => zlt (y6 + x11) (fun x12 => zgd (0 ≤ y8 ∧ y8 < 256) (zsp1 (zbr (M10 (zfr k l5 0) y8.toNat) 0 (M10 (zfr k l5 0) y8.toNat = 0) (some (.inl y8)) (zbr 1 0 (¬ (1 : Int) = 0) (some (.inl y8)) (zlt (y7 + 1) (fun x13 => zlt (y8 + 1) (fun x14 => some (.inr (.inr (.inl (x12, x13, x14, M10))))))))) (fun r => some r) (fun x15 => zlt (y7 + 0) (fun x16 => zlt (x15 + 1) (fun x17 => some (.inr (.inl (x12, x16, x17, M10))))))))))))))) (fun r => some r) (fun x18 x19 x20 M21 => zgd (((0 : Int) = 0 ∨ (0 : Int) = 1) ∧ 0 ≤ x20 ∧ x20 < 256) (zlt (zst M21 (zfr k (zfr k l0 6) 0) x20.toNat (0)) (fun M22 => zb1 (zbr 0 0 ((0 : Int) = 0) (some (0)) (some (1))) (fun x23 => zlt (x18 + x23) (fun x24 => zgd (0 ≤ x20 ∧ x20 < 256) (zsp1 (zbr (M22 (zfr k l5 0) x20.toNat) 0 (M22 (zfr k l5 0) x20.toNat = 0) (some (.inl x20)) (zbr 0 0 (¬ (0 : Int) = 0) (some (.inl x20)) (zlt (x19 + 1) (fun x25 => zlt (x20 + 1) (fun x26 => some (.inr (.inl (x24, x25, x26, M22)))))))) (fun r => some r) (fun x27 => zlt (x19 + 0) (fun x28 => zlt (x27 + 1) (fun x29 => some (.inl (x24, x28, x29, M22)))))))))))))
def f_X10_rest (k : zK)  (p0 : Nat) (p1 : Int) (p2 : Int) (p3 : Int) (p4 : Int) (M0 : zM) : Option (zM × Int) :=
  zb1 (f_X10_isAge k p1 M0) (fun v1 => zbr v1 0 (v1 = 0) (some (M0, (-1))) (zb1 (f_X10_isWave k p2 p3 M0) (fun v3 => zbr v3 0 (v3 = 0) (some (M0, (-1))) (zbr p4 0 (p4 < 0) (some (M0, (-1))) (zbr p4 2 (p4 ≤ 2) (zbd (f_X10_viewAt k p0 p1 M0) (fun M6 v5 => zgd (ztag k v5.toNat = 9) (zb3 (zw4 (fb_X10_rest_44 k p0 p2 p3 p4 (v5.toNat)) zfu 0 0 0 M6) (fun x30 x31 M32 => zbr p4 1 (¬ p4 = 1) (zbr p4 0 (¬ p4 = 0) (some (M32, x31)) (some (M32, x30))) (zbd (f_X1_countParts k (zfr k p0 6) M32) (fun M34 v33 => some (M34, v33))))))) (some (M0, (-1))))))))
set_option maxRecDepth 20000 in
theorem vl_X10_rest_44 {κ : zC} {w : zW} (hw : zWk w)  (l0 : Nat) (l2 : Int) (l3 : Int) (l4 : Int) (l5 : Nat) (g0 : ztag w.1 l0 = 11) (g5 : ztag w.1 l5 = 9)  (E : (Int × Int × zM) → Prop) (hX : ∀ (u6 : Int) (u7 : Int) (M1 : zM), E (u6, u7, M1) → zB cX10_rest RX10 10 (some .int) κ w (0, 0, 6) 141 [(0, rn w l0), (4, iv l4), (6, iv u6), (7, iv u7)] [] M1)  (y6 : Int) (y7 : Int) (y8 : Int) (M0 : zM) :
    zV cX10_rest RX10 10 (some .int) κ w (0, 0, 6) 44 [(6, iv y6), (7, iv y7), (8, iv y8), (0, rn w l0), (2, iv l2), (3, iv l3), (4, iv l4), (5, rn w l5)] [] M0 (zw4 (fb_X10_rest_44 w.1 l0 l2 l3 l4 l5) zfu y6 y7 y8 M0) E := by
  have hT := hw.1
  refine zv_loop4 (fun y6 y7 y8 M0 => [(6, iv y6), (7, iv y7), (8, iv y8), (0, rn w l0), (2, iv l2), (3, iv l3), (4, iv l4), (5, rn w l5)]) (fun y6 y7 y8 M0 => M0) (fun y6 y7 y8 M0 => ?_) y6 y7 y8 M0
  unfold fb_X10_rest_44
  refine zv_iload dX10_rest_44 2 rfl ?_
  refine zv_sipush (z := 256) dX10_rest_46 (by decide) ?_
  refine zv_icmp_ge (tgt := 141) dX10_rest_49 (by decide) ?_ ?_
  · exact zv_sub (L' := [(0, rn w l0), (4, iv l4), (6, iv y6), (7, iv y7)]) [3, 6, 0, 1] rfl (zv_exit (fun h => hX _ _ _ h))
  refine zv_rload dX10_rest_52 7 rfl ?_
  refine zg_RX10_240 dX10_rest_54 g5 ?_
  refine zv_iload dX10_rest_57 2 rfl ?_
  refine zv_zald dX10_rest_59 (zta_8_0 hT g5) (ztl_8_0 hT g5) (by decide) ?_
  refine zv_joinS4 (fun r => r) 79 (fun x18 x19 x20 M21 => [(6, iv x18), (7, iv x19), (8, iv x20), (0, rn w l0), (2, iv l2), (3, iv l3), (4, iv l4), (5, rn w l5)]) (fun x18 x19 x20 M21 => []) (fun x18 x19 x20 M21 => M21) ?_ (fun x18 x19 x20 M21 => ?_)
  · refine zv_if_eq (tgt := 79) dX10_rest_60 (by decide) ?_ ?_
    · exact zv_sub (L' := [(6, iv y6), (7, iv y7), (8, iv y8), (0, rn w l0), (2, iv l2), (3, iv l3), (4, iv l4), (5, rn w l5)]) [0, 1, 2, 3, 4, 5, 6, 7] rfl (zv_exit (fun h => h))
    refine zv_rload dX10_rest_63 7 rfl ?_
    refine zv_iload dX10_rest_65 2 rfl ?_
    refine zv_iload_n dX10_rest_67 5 rfl ?_
    refine zv_pc (zv_callVi [iv y8, iv l3] (c_X8_standsTo κ.2.1 hw l5 y8 l3 M0 g5) zmd_X8_standsTo zwI_X8_standsTo zwS_X8_standsTo zwM_RX10_375 zcd_8 g5 rfl (by decide) rfl (Nat.le_of_ble_eq_true rfl) dX10_rest_68 (fun mh9 v8 h9 => ?_))
    obtain rfl := zpuE h9
    refine zv_iload_n dX10_rest_71 4 rfl ?_
    refine zv_icmp_lt (tgt := 79) dX10_rest_72 (by decide) ?_ ?_
    · exact zv_sub (L' := [(6, iv y6), (7, iv y7), (8, iv y8), (0, rn w l0), (2, iv l2), (3, iv l3), (4, iv l4), (5, rn w l5)]) [0, 1, 2, 3, 4, 5, 6, 7] rfl (zv_exit (fun h => h))
    refine zv_iconst (z := 1) dX10_rest_75 ?_
    refine zv_goto (tgt := 80) dX10_rest_76 (by decide) ?_
    refine zv_istore_p (L' := [(9, iv 1), (6, iv y6), (7, iv y7), (8, iv y8), (0, rn w l0), (2, iv l2), (3, iv l3), (4, iv l4), (5, rn w l5)]) dX10_rest_80 (by decide) rfl ?_
    refine zv_rload_n dX10_rest_82 4 rfl ?_
    refine zg_RX10_49 dX10_rest_83 g0 ?_
    refine zg_RX10_378 dX10_rest_86 (zta_10_6 hT g0) ?_
    refine zv_iload dX10_rest_89 3 rfl ?_
    refine zv_iload dX10_rest_91 0 rfl ?_
    refine zv_zast dX10_rest_93 (zta_1_0 hT (zta_10_6 hT g0)) (ztl_1_0 hT (zta_10_6 hT g0)) (by decide) (fun M10 => ?_)
    refine zv_iload dX10_rest_94 1 rfl ?_
    refine zv_iload dX10_rest_96 0 rfl ?_
    refine zv_join1 106 (fun x11 => [(9, iv 1), (7, iv y7), (8, iv y8), (0, rn w l0), (2, iv l2), (3, iv l3), (4, iv l4), (5, rn w l5)]) (fun x11 => [iv x11, iv y6]) (fun x11 => M10) ?_ (fun x11 => ?_)
    · refine zv_if_eq (tgt := 105) dX10_rest_98 (by decide) ?_ ?_
      · refine zv_iconst (z := 0) dX10_rest_105 ?_
        exact zv_sub (L' := [(9, iv 1), (7, iv y7), (8, iv y8), (0, rn w l0), (2, iv l2), (3, iv l3), (4, iv l4), (5, rn w l5)]) [0, 2, 3, 4, 5, 6, 7, 8] rfl (zv_exit (fun h => h))
      refine zv_iconst (z := 1) dX10_rest_101 ?_
      refine zv_goto (tgt := 106) dX10_rest_102 (by decide) ?_
      exact zv_sub (L' := [(9, iv 1), (7, iv y7), (8, iv y8), (0, rn w l0), (2, iv l2), (3, iv l3), (4, iv l4), (5, rn w l5)]) [0, 2, 3, 4, 5, 6, 7, 8] rfl (zv_exit (fun h => h))
    refine zv_iadd dX10_rest_106 ?_
    refine zv_istore dX10_rest_107 (fun x12 => [(6, iv x12), (9, iv 1), (7, iv y7), (8, iv y8), (0, rn w l0), (2, iv l2), (3, iv l3), (4, iv l4), (5, rn w l5)]) (by decide) (fun _ => rfl) (fun x12 => ?_)
    refine zv_iload dX10_rest_109 2 rfl ?_
    refine zv_rload dX10_rest_111 8 rfl ?_
    refine zg_RX10_240 dX10_rest_113 g5 ?_
    refine zv_iload dX10_rest_116 3 rfl ?_
    refine zv_zald dX10_rest_118 (zta_8_0 hT g5) (ztl_8_0 hT g5) (by decide) ?_
    refine zv_joinS1 (fun r => r) 131 (fun x15 => [(8, iv x15), (6, iv x12), (0, rn w l0), (2, iv l2), (3, iv l3), (4, iv l4), (5, rn w l5)]) (fun x15 => [iv y7]) (fun x15 => M10) ?_ (fun x15 => ?_)
    · refine zv_if_eq (tgt := 131) dX10_rest_119 (by decide) ?_ ?_
      · exact zv_sub (L' := [(8, iv y8), (6, iv x12), (0, rn w l0), (2, iv l2), (3, iv l3), (4, iv l4), (5, rn w l5)]) [3, 0, 4, 5, 6, 7, 8] rfl (zv_exit (fun h => h))
      refine zv_iload dX10_rest_122 1 rfl ?_
      refine zv_if_ne (tgt := 131) dX10_rest_124 (by decide) ?_ ?_
      · exact zv_sub (L' := [(8, iv y8), (6, iv x12), (0, rn w l0), (2, iv l2), (3, iv l3), (4, iv l4), (5, rn w l5)]) [3, 0, 4, 5, 6, 7, 8] rfl (zv_exit (fun h => h))
      refine zv_iconst (z := 1) dX10_rest_127 ?_
      refine zv_goto (tgt := 132) dX10_rest_128 (by decide) ?_
      refine zv_iadd dX10_rest_132 ?_
      refine zv_istore dX10_rest_133 (fun x13 => [(7, iv x13), (6, iv x12), (9, iv 1), (8, iv y8), (0, rn w l0), (2, iv l2), (3, iv l3), (4, iv l4), (5, rn w l5)]) (by decide) (fun _ => rfl) (fun x13 => ?_)
      refine zv_iinc dX10_rest_135 3 rfl (fun x14 => [(8, iv x14), (7, iv x13), (6, iv x12), (9, iv 1), (0, rn w l0), (2, iv l2), (3, iv l3), (4, iv l4), (5, rn w l5)]) (by decide) (fun _ => rfl) (fun x14 => ?_)
      refine zv_goto (tgt := 44) dX10_rest_138 (by decide) ?_
      exact zv_sub (L' := [(6, iv x12), (7, iv x13), (8, iv x14), (0, rn w l0), (2, iv l2), (3, iv l3), (4, iv l4), (5, rn w l5)]) [2, 1, 0, 4, 5, 6, 7, 8] rfl (zv_exit (fun h => h))
    refine zv_iconst (z := 0) dX10_rest_131 ?_
    refine zv_iadd dX10_rest_132 ?_
    refine zv_istore dX10_rest_133 (fun x16 => [(7, iv x16), (8, iv x15), (6, iv x12), (0, rn w l0), (2, iv l2), (3, iv l3), (4, iv l4), (5, rn w l5)]) (by decide) (fun _ => rfl) (fun x16 => ?_)
    refine zv_iinc dX10_rest_135 1 rfl (fun x17 => [(8, iv x17), (7, iv x16), (6, iv x12), (0, rn w l0), (2, iv l2), (3, iv l3), (4, iv l4), (5, rn w l5)]) (by decide) (fun _ => rfl) (fun x17 => ?_)
    refine zv_goto (tgt := 44) dX10_rest_138 (by decide) ?_
    exact zv_sub (L' := [(6, iv x12), (7, iv x16), (8, iv x17), (0, rn w l0), (2, iv l2), (3, iv l3), (4, iv l4), (5, rn w l5)]) [2, 1, 0, 3, 4, 5, 6, 7] rfl (zv_exit (fun h => h))
  refine zv_iconst (z := 0) dX10_rest_79 ?_
  refine zv_istore_p (L' := [(9, iv 0), (6, iv x18), (7, iv x19), (8, iv x20), (0, rn w l0), (2, iv l2), (3, iv l3), (4, iv l4), (5, rn w l5)]) dX10_rest_80 (by decide) rfl ?_
  refine zv_rload_n dX10_rest_82 4 rfl ?_
  refine zg_RX10_49 dX10_rest_83 g0 ?_
  refine zg_RX10_378 dX10_rest_86 (zta_10_6 hT g0) ?_
  refine zv_iload dX10_rest_89 3 rfl ?_
  refine zv_iload dX10_rest_91 0 rfl ?_
  refine zv_zast dX10_rest_93 (zta_1_0 hT (zta_10_6 hT g0)) (ztl_1_0 hT (zta_10_6 hT g0)) (by decide) (fun M22 => ?_)
  refine zv_iload dX10_rest_94 1 rfl ?_
  refine zv_iload dX10_rest_96 0 rfl ?_
  refine zv_join1 106 (fun x23 => [(9, iv 0), (7, iv x19), (8, iv x20), (0, rn w l0), (2, iv l2), (3, iv l3), (4, iv l4), (5, rn w l5)]) (fun x23 => [iv x23, iv x18]) (fun x23 => M22) ?_ (fun x23 => ?_)
  · refine zv_if_eq (tgt := 105) dX10_rest_98 (by decide) ?_ ?_
    · refine zv_iconst (z := 0) dX10_rest_105 ?_
      exact zv_sub (L' := [(9, iv 0), (7, iv x19), (8, iv x20), (0, rn w l0), (2, iv l2), (3, iv l3), (4, iv l4), (5, rn w l5)]) [0, 2, 3, 4, 5, 6, 7, 8] rfl (zv_exit (fun h => h))
    refine zv_iconst (z := 1) dX10_rest_101 ?_
    refine zv_goto (tgt := 106) dX10_rest_102 (by decide) ?_
    exact zv_sub (L' := [(9, iv 0), (7, iv x19), (8, iv x20), (0, rn w l0), (2, iv l2), (3, iv l3), (4, iv l4), (5, rn w l5)]) [0, 2, 3, 4, 5, 6, 7, 8] rfl (zv_exit (fun h => h))
  refine zv_iadd dX10_rest_106 ?_
  refine zv_istore dX10_rest_107 (fun x24 => [(6, iv x24), (9, iv 0), (7, iv x19), (8, iv x20), (0, rn w l0), (2, iv l2), (3, iv l3), (4, iv l4), (5, rn w l5)]) (by decide) (fun _ => rfl) (fun x24 => ?_)
  refine zv_iload dX10_rest_109 2 rfl ?_
  refine zv_rload dX10_rest_111 8 rfl ?_
  refine zg_RX10_240 dX10_rest_113 g5 ?_
  refine zv_iload dX10_rest_116 3 rfl ?_
  refine zv_zald dX10_rest_118 (zta_8_0 hT g5) (ztl_8_0 hT g5) (by decide) ?_
  refine zv_joinS1 (fun r => r) 131 (fun x27 => [(8, iv x27), (6, iv x24), (0, rn w l0), (2, iv l2), (3, iv l3), (4, iv l4), (5, rn w l5)]) (fun x27 => [iv x19]) (fun x27 => M22) ?_ (fun x27 => ?_)
  · refine zv_if_eq (tgt := 131) dX10_rest_119 (by decide) ?_ ?_
    · exact zv_sub (L' := [(8, iv x20), (6, iv x24), (0, rn w l0), (2, iv l2), (3, iv l3), (4, iv l4), (5, rn w l5)]) [3, 0, 4, 5, 6, 7, 8] rfl (zv_exit (fun h => h))
    refine zv_iload dX10_rest_122 1 rfl ?_
    refine zv_if_ne (tgt := 131) dX10_rest_124 (by decide) ?_ ?_
    · exact zv_sub (L' := [(8, iv x20), (6, iv x24), (0, rn w l0), (2, iv l2), (3, iv l3), (4, iv l4), (5, rn w l5)]) [3, 0, 4, 5, 6, 7, 8] rfl (zv_exit (fun h => h))
    refine zv_iconst (z := 1) dX10_rest_127 ?_
    refine zv_goto (tgt := 132) dX10_rest_128 (by decide) ?_
    refine zv_iadd dX10_rest_132 ?_
    refine zv_istore dX10_rest_133 (fun x25 => [(7, iv x25), (6, iv x24), (9, iv 0), (8, iv x20), (0, rn w l0), (2, iv l2), (3, iv l3), (4, iv l4), (5, rn w l5)]) (by decide) (fun _ => rfl) (fun x25 => ?_)
    refine zv_iinc dX10_rest_135 3 rfl (fun x26 => [(8, iv x26), (7, iv x25), (6, iv x24), (9, iv 0), (0, rn w l0), (2, iv l2), (3, iv l3), (4, iv l4), (5, rn w l5)]) (by decide) (fun _ => rfl) (fun x26 => ?_)
    refine zv_goto (tgt := 44) dX10_rest_138 (by decide) ?_
    exact zv_sub (L' := [(6, iv x24), (7, iv x25), (8, iv x26), (0, rn w l0), (2, iv l2), (3, iv l3), (4, iv l4), (5, rn w l5)]) [2, 1, 0, 4, 5, 6, 7, 8] rfl (zv_exit (fun h => h))
  refine zv_iconst (z := 0) dX10_rest_131 ?_
  refine zv_iadd dX10_rest_132 ?_
  refine zv_istore dX10_rest_133 (fun x28 => [(7, iv x28), (8, iv x27), (6, iv x24), (0, rn w l0), (2, iv l2), (3, iv l3), (4, iv l4), (5, rn w l5)]) (by decide) (fun _ => rfl) (fun x28 => ?_)
  refine zv_iinc dX10_rest_135 1 rfl (fun x29 => [(8, iv x29), (7, iv x28), (6, iv x24), (0, rn w l0), (2, iv l2), (3, iv l3), (4, iv l4), (5, rn w l5)]) (by decide) (fun _ => rfl) (fun x29 => ?_)
  refine zv_goto (tgt := 44) dX10_rest_138 (by decide) ?_
  exact zv_sub (L' := [(6, iv x24), (7, iv x28), (8, iv x29), (0, rn w l0), (2, iv l2), (3, iv l3), (4, iv l4), (5, rn w l5)]) [2, 1, 0, 3, 4, 5, 6, 7] rfl (zv_exit (fun h => h))
theorem c_X10_rest (l : Launch) {w : zW} (hw : zWk w)  (p0 : Nat) (p1 : Int) (p2 : Int) (p3 : Int) (p4 : Int) (M0 : zM) (hp0 : ztag w.1 p0 = 11) : zCn l yX10_rest cX10_rest 10 (some .int) (6) 1 w [rn w p0, iv p1, iv p2, iv p3, iv p4] M0 (f_X10_rest w.1 p0 p1 p2 p3 p4 M0) := by
  have hT := hw.1
  refine zCn_of (own := RX10) (by decide) rfl hw (Nat.le_of_ble_eq_true rfl) [(0, rn w p0), (1, iv p1), (2, iv p2), (3, iv p3), (4, iv p4)] rfl ?_
  intro κ hl
  subst hl
  unfold f_X10_rest
  refine zv_iload_n dX10_rest_0 1 rfl ?_
  refine zv_pc (zv_callSi [iv p1] (c_X10_isAge κ.2.1 hw p1 M0 ) zmd_X10_isAge zwT_X10_isAge zwM_RX10_197 rfl (by decide) rfl (Nat.le_of_ble_eq_true rfl) dX10_rest_1 (fun mh2 v1 h2 => ?_))
  obtain rfl := zpuE h2
  refine zv_if_eq (tgt := 26) dX10_rest_4 (by decide) ?_ ?_
  · refine zv_iconst (z := (-1)) dX10_rest_26 ?_
    exact zv_ret (fun h => h) (zv_iret dX10_rest_27)
  refine zv_iload_n dX10_rest_7 2 rfl ?_
  refine zv_iload_n dX10_rest_8 3 rfl ?_
  refine zv_pc (zv_callSi [iv p2, iv p3] (c_X10_isWave κ.2.1 hw p2 p3 M0 ) zmd_X10_isWave zwT_X10_isWave zwM_RX10_372 rfl (by decide) rfl (Nat.le_of_ble_eq_true rfl) dX10_rest_9 (fun mh4 v3 h4 => ?_))
  obtain rfl := zpuE h4
  refine zv_if_eq (tgt := 26) dX10_rest_12 (by decide) ?_ ?_
  · refine zv_iconst (z := (-1)) dX10_rest_26 ?_
    exact zv_ret (fun h => h) (zv_iret dX10_rest_27)
  refine zv_iload dX10_rest_15 4 rfl ?_
  refine zv_if_lt (tgt := 26) dX10_rest_17 (by decide) ?_ ?_
  · refine zv_iconst (z := (-1)) dX10_rest_26 ?_
    exact zv_ret (fun h => h) (zv_iret dX10_rest_27)
  refine zv_iload dX10_rest_20 4 rfl ?_
  refine zv_iconst (z := 2) dX10_rest_22 ?_
  refine zv_icmp_le (tgt := 28) dX10_rest_23 (by decide) ?_ ?_
  · refine zv_rload_n dX10_rest_28 0 rfl ?_
    refine zv_iload_n dX10_rest_29 1 rfl ?_
    refine (zv_callVr [iv p1] (c_X10_viewAt κ.2.1 hw p0 p1 M0 hp0) zmd_X10_viewAt zwI_X10_viewAt zwS_X10_viewAt zwM_RX10_236 zcd_10 hp0 rfl (by decide) rfl (Nat.le_of_ble_eq_true rfl) dX10_rest_30 (fun M6 v5 _ => ?_))
    refine zv_gd (fun h7 => ?_)
    refine zv_rstore_p (L' := [(5, rn w (v5.toNat)), (0, rn w p0), (1, iv p1), (2, iv p2), (3, iv p3), (4, iv p4)]) dX10_rest_33 (by decide) rfl ?_
    refine zv_iconst (z := 0) dX10_rest_35 ?_
    refine zv_istore_p (L' := [(6, iv 0), (5, rn w (v5.toNat)), (0, rn w p0), (1, iv p1), (2, iv p2), (3, iv p3), (4, iv p4)]) dX10_rest_36 (by decide) rfl ?_
    refine zv_iconst (z := 0) dX10_rest_38 ?_
    refine zv_istore_p (L' := [(7, iv 0), (6, iv 0), (5, rn w (v5.toNat)), (0, rn w p0), (1, iv p1), (2, iv p2), (3, iv p3), (4, iv p4)]) dX10_rest_39 (by decide) rfl ?_
    refine zv_iconst (z := 0) dX10_rest_41 ?_
    refine zv_istore_p (L' := [(8, iv 0), (7, iv 0), (6, iv 0), (5, rn w (v5.toNat)), (0, rn w p0), (1, iv p1), (2, iv p2), (3, iv p3), (4, iv p4)]) dX10_rest_42 (by decide) rfl ?_
    refine zv_join3 141 (fun x30 x31 M32 => [(0, rn w p0), (4, iv p4), (6, iv x30), (7, iv x31)]) (fun x30 x31 M32 => []) (fun x30 x31 M32 => M32) (zv_sub (L' := [(6, iv 0), (7, iv 0), (8, iv 0), (0, rn w p0), (2, iv p2), (3, iv p3), (4, iv p4), (5, rn w (v5.toNat))]) [2, 1, 0, 4, 6, 7, 8, 3] rfl (vl_X10_rest_44 hw p0 p2 p3 p4 (v5.toNat) hp0 h7 _ (fun _ _ _ h => h) 0 0 0 M6)) (fun x30 x31 M32 => ?_)
    refine zv_iload dX10_rest_141 1 rfl ?_
    refine zv_iconst (z := 1) dX10_rest_143 ?_
    refine zv_icmp_ne (tgt := 155) dX10_rest_144 (by decide) ?_ ?_
    · refine zv_iload dX10_rest_155 1 rfl ?_
      refine zv_if_ne (tgt := 165) dX10_rest_157 (by decide) ?_ ?_
      · refine zv_iload dX10_rest_165 3 rfl ?_
        exact zv_ret (fun h => h) (zv_iret dX10_rest_167)
      refine zv_iload dX10_rest_160 2 rfl ?_
      refine zv_goto (tgt := 167) dX10_rest_162 (by decide) ?_
      exact zv_ret (fun h => h) (zv_iret dX10_rest_167)
    refine zv_rload_n dX10_rest_147 0 rfl ?_
    refine zg_RX10_49 dX10_rest_148 hp0 ?_
    refine (zv_callVi [] (c_X1_countParts κ.2.1 hw (zfr w.1 p0 6) M32 (zta_10_6 hT hp0)) zmd_X1_countParts zwI_X1_countParts zwS_X1_countParts zwM_RX10_381 zcd_1 (zta_10_6 hT hp0) rfl (by decide) rfl (Nat.le_of_ble_eq_true rfl) dX10_rest_151 (fun M34 v33 _ => ?_))
    exact zv_ret (fun h => h) (zv_iret dX10_rest_154)
  refine zv_iconst (z := (-1)) dX10_rest_26 ?_
  exact zv_ret (fun h => h) (zv_iret dX10_rest_27)
def f_X10_restore (k : zK)  (p0 : Nat) (p1 : Int) (M0 : zM) : Option (zM × Int) :=
  zsp1 (zbr p1 0 (p1 < 0) (some (.inl M0)) (zbr p1 (M0 p0 13) (M0 p0 13 ≤ p1) (some (.inl M0)) (zbr p1 3 (3 ≤ p1) (some (.inl M0)) (zgd (0 ≤ p1 ∧ p1 < 3) (if (M0 (zfr k p0 2) p1.toNat).toNat = 0 then (some (.inl M0)) else (zgd (0 ≤ p1 ∧ p1 < 3) (zgd (ztag k (M0 (zfr k p0 2) p1.toNat).toNat = 8 ∧ (M0 (zfr k p0 2) p1.toNat).toNat ≠ 0) (zb1 (f_X7_take k (zfr k p0 1) ((M0 (zfr k p0 2) p1.toNat).toNat) M0) (fun M2 => zb1 (f_X10_forgetGround k p0 M2) (fun M3 => some (.inr (M3, 1)))))))))))) (fun r => some r) (fun M4 => zbd (f_X10_refuse k p0 0 M4) (fun M6 v5 => some (M6, 0)))
theorem c_X10_restore (l : Launch) {w : zW} (hw : zWk w)  (p0 : Nat) (p1 : Int) (M0 : zM) (hp0 : ztag w.1 p0 = 11) : zCn l yX10_restore cX10_restore 2 (some .boolean) (2) 1 w [rn w p0, iv p1] M0 (f_X10_restore w.1 p0 p1 M0) := by
  have hT := hw.1
  refine zCn_of (own := RX10) (by decide) rfl hw (Nat.le_of_ble_eq_true rfl) [(0, rn w p0), (1, iv p1)] rfl ?_
  intro κ hl
  subst hl
  unfold f_X10_restore
  refine zv_iload_n dX10_restore_0 1 rfl ?_
  refine zv_joinS1 (fun r => r) 26 (fun M4 => [(0, rn w p0)]) (fun M4 => []) (fun M4 => M4) ?_ (fun M4 => ?_)
  · refine zv_if_lt (tgt := 26) dX10_restore_1 (by decide) ?_ ?_
    · exact zv_sub (L' := [(0, rn w p0)]) [0] rfl (zv_exit (fun h => h))
    refine zv_iload_n dX10_restore_4 1 rfl ?_
    refine zv_rload_n dX10_restore_5 0 rfl ?_
    refine zg_RX10_85 dX10_restore_6 hp0 ?_
    refine zv_icmp_ge (tgt := 26) dX10_restore_9 (by decide) ?_ ?_
    · exact zv_sub (L' := [(0, rn w p0)]) [0] rfl (zv_exit (fun h => h))
    refine zv_iload_n dX10_restore_12 1 rfl ?_
    refine zv_iconst (z := 3) dX10_restore_13 ?_
    refine zv_icmp_ge (tgt := 26) dX10_restore_14 (by decide) ?_ ?_
    · exact zv_sub (L' := [(0, rn w p0)]) [0] rfl (zv_exit (fun h => h))
    refine zv_rload_n dX10_restore_17 0 rfl ?_
    refine zg_RX10_23 dX10_restore_18 hp0 ?_
    refine zv_iload_n dX10_restore_21 1 rfl ?_
    refine zv_aald dX10_restore_22 (zta_10_2 hT hp0) (ztl_10_2 hT hp0) (by decide) ?_
    refine zv_ifnn (tgt := 34) dX10_restore_23 (by decide) ?_ ?_
    · refine zv_rload_n dX10_restore_34 0 rfl ?_
      refine zg_RX10_19 dX10_restore_35 hp0 ?_
      refine zv_rload_n dX10_restore_38 0 rfl ?_
      refine zg_RX10_23 dX10_restore_39 hp0 ?_
      refine zv_iload_n dX10_restore_42 1 rfl ?_
      refine zv_aald dX10_restore_43 (zta_10_2 hT hp0) (ztl_10_2 hT hp0) (by decide) ?_
      refine zv_gd (fun h1 => ?_)
      refine zv_nn h1.2 ?_
      refine zv_vc (zv_callVv [rn w ((M0 (zfr w.1 p0 2) p1.toNat).toNat)] (c_X7_take κ.2.1 hw (zfr w.1 p0 1) ((M0 (zfr w.1 p0 2) p1.toNat).toNat) M0 (zta_10_1 hT hp0) h1.1) zmd_X7_take zwI_X7_take zwS_X7_take zwM_RX10_193 zcd_7 (zta_10_1 hT hp0) rfl (by decide) rfl (Nat.le_of_ble_eq_true rfl) dX10_restore_44 (fun M2 _ _ => ?_))
      refine zv_rload_n dX10_restore_47 0 rfl ?_
      refine zv_vc (zv_callVv [] (c_X10_forgetGround κ.2.1 hw p0 M2 hp0) zmd_X10_forgetGround zwI_X10_forgetGround zwS_X10_forgetGround zwM_RX10_109 zcd_10 hp0 rfl (by decide) rfl (Nat.le_of_ble_eq_true rfl) dX10_restore_48 (fun M3 _ _ => ?_))
      refine zv_iconst (z := 1) dX10_restore_51 ?_
      exact zv_ret (fun h => h) (zv_zrB (by decide) dX10_restore_52)
    exact zv_sub (L' := [(0, rn w p0)]) [0] rfl (zv_exit (fun h => h))
  refine zv_rload_n dX10_restore_26 0 rfl ?_
  refine zv_iconst (z := 0) dX10_restore_27 ?_
  refine (zv_callVi [iv 0] (c_X10_refuse κ.2.1 hw p0 0 M4 hp0) zmd_X10_refuse zwI_X10_refuse zwS_X10_refuse zwM_RX10_99 zcd_10 hp0 rfl (by decide) rfl (Nat.le_of_ble_eq_true rfl) dX10_restore_28 (fun M6 v5 _ => ?_))
  refine zv_pop dX10_restore_31 rfl ?_
  refine zv_iconst (z := 0) dX10_restore_32 ?_
  exact zv_ret (fun h => h) (zv_zrB (by decide) dX10_restore_33)
def fb_X10_right_51 (k : zK)  (l0 : Nat) (l1 : Int) (l2 : Int) (l3 : Int) (l4 : Nat) (l5 : Int) (y7 : Int) (y9 : Int) (M0 : zM) : Option ((Int × Int × zM) ⊕ (Int × zM)) :=
  zbr y9 4 (4 ≤ y9) (some (.inr (y7, M0))) (zbr y9 l1 (¬ y9 = l1) (zbd (f_X10_sumFish k l0 y9 l2 l4 M0) (fun M11 v10 => zgd (zr v10) (zlt (y7 + v10) (fun x12 => zlt (y9 + 1) (fun x13 => some (.inl (x12, x13, M11))))))) (zlt (y7 + l5) (fun x14 => zlt (y9 + 1) (fun x15 => some (.inl (x14, x15, M0))))))
def fb_X10_right_98 (k : zK)  (l0 : Nat) (l1 : Int) (l3 : Int) (l5 : Int) (l7 : Int) (M0 : zM) (y9 : Int) (y11 : Int) (y13 : Int) : Option ((Int × Int × Int) ⊕ (Int × Int)) :=
  zbr y13 (M0 (zfr k l0 1) 17) (M0 (zfr k l0 1) 17 ≤ y13) (some (.inr (y9, y11))) (zgd (0 ≤ y13 ∧ y13 < 60) (zbr (M0 (zfr k (zfr k l0 1) 7) y13.toNat) 0 (¬ M0 (zfr k (zfr k l0 1) 7) y13.toNat = 0) (zlt (y13 + 1) (fun x18 => some (.inl (y9, y11, x18)))) (zlt (y11 + 1) (fun x19 => zgd (0 ≤ y13 ∧ y13 < 60) (zb1 (f_X10_quarterOf k (M0 (zfr k (zfr k l0 1) 6) y13.toNat) M0) (fun v20 => zbr v20 l1 (¬ v20 = l1) (zlt (y9 + 0) (fun x22 => zlt (y13 + 1) (fun x23 => some (.inl (x22, x19, x23))))) (zlt (y9 + 1) (fun x24 => zlt (y13 + 1) (fun x25 => some (.inl (x24, x19, x25)))))))))))
def f_X10_right (k : zK)  (p0 : Nat) (p1 : Int) (p2 : Int) (p3 : Int) (M0 : zM) : Option (zM × Int) :=
  zbr p1 0 (p1 < 0) (some (M0, (-1))) (zbr p1 3 (3 < p1) (some (M0, (-1))) (zb1 (f_X10_isAge k p2 M0) (fun v1 => zbr v1 0 (v1 = 0) (some (M0, (-1))) (zb1 (f_X10_isPart k p3 M0) (fun v3 => zbr v3 0 (¬ v3 = 0) (zbd (f_X10_viewAt k p0 p2 M0) (fun M6 v5 => zgd (ztag k v5.toNat = 9) (zbd (f_X10_sumFish k p0 p1 p2 (v5.toNat) M6) (fun M9 v8 => zgd (zr v8) (zb2 (zw3 (fb_X10_right_51 k p0 p1 p2 p3 (v5.toNat) v8) zfu 0 0 M9) (fun x16 M17 => zb2 (zw3 (fb_X10_right_98 k p0 p1 p3 v8 x16 M17) zfu 0 0 0) (fun x26 x27 => zbl v8 0 (v8 = 0) (some (M17, (-1))) (zbl x27 0 (¬ x27 = 0) (zb1 (f_X5_put k (zfr k p0 8) (x26 * x16) (v8 * x27) M17) (fun M28 => zb1 (f_X5_part k (zfr k p0 8) p3 M28) (fun v29 => some (M28, v29)))) (some (M17, (-1))))))))))) (some (M0, (-1))))))))
theorem vl_X10_right_51 {κ : zC} {w : zW} (hw : zWk w)  (l0 : Nat) (l1 : Int) (l2 : Int) (l3 : Int) (l4 : Nat) (l5 : Int) (g0 : ztag w.1 l0 = 11) (g4 : ztag w.1 l4 = 9)  (E : (Int × zM) → Prop) (hX : ∀ (u7 : Int) (M1 : zM), E (u7, M1) → zB cX10_right RX10 14 (some .long) κ w (0, 0, 6) 89 [(0, rn w l0), (1, iv l1), (3, iv l3), (5, jv l5), (7, jv u7)] [] M1)  (y7 : Int) (y9 : Int) (M0 : zM) :
    zV cX10_right RX10 14 (some .long) κ w (0, 0, 6) 51 [(7, jv y7), (9, iv y9), (0, rn w l0), (1, iv l1), (2, iv l2), (3, iv l3), (4, rn w l4), (5, jv l5)] [] M0 (zw3 (fb_X10_right_51 w.1 l0 l1 l2 l3 l4 l5) zfu y7 y9 M0) E := by
  have hT := hw.1
  refine zv_loop3 (fun y7 y9 M0 => [(7, jv y7), (9, iv y9), (0, rn w l0), (1, iv l1), (2, iv l2), (3, iv l3), (4, rn w l4), (5, jv l5)]) (fun y7 y9 M0 => M0) (fun y7 y9 M0 => ?_) y7 y9 M0
  unfold fb_X10_right_51
  refine zv_iload dX10_right_51 1 rfl ?_
  refine zv_iconst (z := 4) dX10_right_53 ?_
  refine zv_icmp_ge (tgt := 89) dX10_right_54 (by decide) ?_ ?_
  · exact zv_sub (L' := [(0, rn w l0), (1, iv l1), (3, iv l3), (5, jv l5), (7, jv y7)]) [2, 3, 5, 7, 0] rfl (zv_exit (fun h => hX _ _ h))
  refine zv_lload dX10_right_57 0 rfl ?_
  refine zv_iload dX10_right_59 1 rfl ?_
  refine zv_iload_n dX10_right_61 3 rfl ?_
  refine zv_icmp_ne (tgt := 70) dX10_right_62 (by decide) ?_ ?_
  · refine zv_rload_n dX10_right_70 2 rfl ?_
    refine zv_iload dX10_right_71 1 rfl ?_
    refine zv_iload_n dX10_right_73 4 rfl ?_
    refine zv_rload dX10_right_74 6 rfl ?_
    refine (zv_callVi [iv y9, iv l2, rn w l4] (c_X10_sumFish κ.2.1 hw l0 y9 l2 l4 M0 g0 g4) zmd_X10_sumFish zwI_X10_sumFish zwS_X10_sumFish zwM_RX10_303 zcd_10 g0 rfl (by decide) rfl (Nat.le_of_ble_eq_true rfl) dX10_right_76 (fun M11 v10 _ => ?_))
    refine zv_i2l dX10_right_79 ?_
    refine zv_ladd dX10_right_80 ?_
    refine zv_lstore dX10_right_81 (fun x12 => [(7, jv x12), (9, iv y9), (0, rn w l0), (1, iv l1), (2, iv l2), (3, iv l3), (4, rn w l4), (5, jv l5)]) (by decide) (fun _ => rfl) (fun x12 => ?_)
    refine zv_iinc dX10_right_83 1 rfl (fun x13 => [(9, iv x13), (7, jv x12), (0, rn w l0), (1, iv l1), (2, iv l2), (3, iv l3), (4, rn w l4), (5, jv l5)]) (by decide) (fun _ => rfl) (fun x13 => ?_)
    refine zv_goto (tgt := 51) dX10_right_86 (by decide) ?_
    exact zv_sub (L' := [(7, jv x12), (9, iv x13), (0, rn w l0), (1, iv l1), (2, iv l2), (3, iv l3), (4, rn w l4), (5, jv l5)]) [1, 0, 2, 3, 4, 5, 6, 7] rfl (zv_exit (fun h => h))
  refine zv_lload dX10_right_65 7 rfl ?_
  refine zv_goto (tgt := 80) dX10_right_67 (by decide) ?_
  refine zv_ladd dX10_right_80 ?_
  refine zv_lstore dX10_right_81 (fun x14 => [(7, jv x14), (9, iv y9), (0, rn w l0), (1, iv l1), (2, iv l2), (3, iv l3), (4, rn w l4), (5, jv l5)]) (by decide) (fun _ => rfl) (fun x14 => ?_)
  refine zv_iinc dX10_right_83 1 rfl (fun x15 => [(9, iv x15), (7, jv x14), (0, rn w l0), (1, iv l1), (2, iv l2), (3, iv l3), (4, rn w l4), (5, jv l5)]) (by decide) (fun _ => rfl) (fun x15 => ?_)
  refine zv_goto (tgt := 51) dX10_right_86 (by decide) ?_
  exact zv_sub (L' := [(7, jv x14), (9, iv x15), (0, rn w l0), (1, iv l1), (2, iv l2), (3, iv l3), (4, rn w l4), (5, jv l5)]) [1, 0, 2, 3, 4, 5, 6, 7] rfl (zv_exit (fun h => h))
theorem vl_X10_right_98 {κ : zC} {w : zW} (hw : zWk w)  (l0 : Nat) (l1 : Int) (l3 : Int) (l5 : Int) (l7 : Int) (g0 : ztag w.1 l0 = 11) (M0 : zM) (E : (Int × Int) → Prop) (hX : ∀ (u9 : Int) (u11 : Int), E (u9, u11) → zB cX10_right RX10 14 (some .long) κ w (0, 0, 6) 162 [(0, rn w l0), (3, iv l3), (5, jv l5), (7, jv l7), (9, jv u9), (11, jv u11)] [] M0)  (y9 : Int) (y11 : Int) (y13 : Int) :
    zV cX10_right RX10 14 (some .long) κ w (0, 0, 6) 98 [(9, jv y9), (11, jv y11), (13, iv y13), (0, rn w l0), (1, iv l1), (3, iv l3), (5, jv l5), (7, jv l7)] [] M0 (zw3 (fb_X10_right_98 w.1 l0 l1 l3 l5 l7 M0) zfu y9 y11 y13) E := by
  have hT := hw.1
  refine zv_loop3 (fun y9 y11 y13 => [(9, jv y9), (11, jv y11), (13, iv y13), (0, rn w l0), (1, iv l1), (3, iv l3), (5, jv l5), (7, jv l7)]) (fun y9 y11 y13 => M0) (fun y9 y11 y13 => ?_) y9 y11 y13
  unfold fb_X10_right_98
  refine zv_iload dX10_right_98 2 rfl ?_
  refine zv_rload_n dX10_right_100 3 rfl ?_
  refine zg_RX10_19 dX10_right_101 g0 ?_
  refine zg_RX10_148 dX10_right_104 (zta_10_1 hT g0) ?_
  refine zv_icmp_ge (tgt := 162) dX10_right_107 (by decide) ?_ ?_
  · exact zv_sub (L' := [(0, rn w l0), (3, iv l3), (5, jv l5), (7, jv l7), (9, jv y9), (11, jv y11)]) [3, 5, 6, 7, 0, 1] rfl (zv_exit (fun h => hX _ _ h))
  refine zv_rload_n dX10_right_110 3 rfl ?_
  refine zg_RX10_19 dX10_right_111 g0 ?_
  refine zg_RX10_154 dX10_right_114 (zta_10_1 hT g0) ?_
  refine zv_iload dX10_right_117 2 rfl ?_
  refine zv_iald dX10_right_119 (zta_7_7 hT (zta_10_1 hT g0)) (ztl_7_7 hT (zta_10_1 hT g0)) (by decide) ?_
  refine zv_if_ne (tgt := 156) dX10_right_120 (by decide) ?_ ?_
  · refine zv_iinc dX10_right_156 2 rfl (fun x18 => [(13, iv x18), (9, jv y9), (11, jv y11), (0, rn w l0), (1, iv l1), (3, iv l3), (5, jv l5), (7, jv l7)]) (by decide) (fun _ => rfl) (fun x18 => ?_)
    refine zv_goto (tgt := 98) dX10_right_159 (by decide) ?_
    exact zv_sub (L' := [(9, jv y9), (11, jv y11), (13, iv x18), (0, rn w l0), (1, iv l1), (3, iv l3), (5, jv l5), (7, jv l7)]) [1, 2, 0, 3, 4, 5, 6, 7] rfl (zv_exit (fun h => h))
  refine zv_lload dX10_right_123 1 rfl ?_
  refine zv_lconst (z := 1) dX10_right_125 (by decide) ?_
  refine zv_ladd dX10_right_126 ?_
  refine zv_lstore dX10_right_127 (fun x19 => [(11, jv x19), (9, jv y9), (13, iv y13), (0, rn w l0), (1, iv l1), (3, iv l3), (5, jv l5), (7, jv l7)]) (by decide) (fun _ => rfl) (fun x19 => ?_)
  refine zv_lload dX10_right_129 1 rfl ?_
  refine zv_rload_n dX10_right_131 3 rfl ?_
  refine zg_RX10_19 dX10_right_132 g0 ?_
  refine zg_RX10_151 dX10_right_135 (zta_10_1 hT g0) ?_
  refine zv_iload dX10_right_138 2 rfl ?_
  refine zv_iald dX10_right_140 (zta_7_6 hT (zta_10_1 hT g0)) (ztl_7_6 hT (zta_10_1 hT g0)) (by decide) ?_
  refine zv_pc (zv_callSi [iv (M0 (zfr w.1 (zfr w.1 l0 1) 6) y13.toNat)] (c_X10_quarterOf κ.2.1 hw (M0 (zfr w.1 (zfr w.1 l0 1) 6) y13.toNat) M0 ) zmd_X10_quarterOf zwT_X10_quarterOf zwM_RX10_307 rfl (by decide) rfl (Nat.le_of_ble_eq_true rfl) dX10_right_141 (fun mh21 v20 h21 => ?_))
  obtain rfl := zpuE h21
  refine zv_iload_n dX10_right_144 4 rfl ?_
  refine zv_icmp_ne (tgt := 152) dX10_right_145 (by decide) ?_ ?_
  · refine zv_lconst (z := 0) dX10_right_152 (by decide) ?_
    refine zv_ladd dX10_right_153 ?_
    refine zv_lstore dX10_right_154 (fun x22 => [(9, jv x22), (11, jv x19), (13, iv y13), (0, rn w l0), (1, iv l1), (3, iv l3), (5, jv l5), (7, jv l7)]) (by decide) (fun _ => rfl) (fun x22 => ?_)
    refine zv_iinc dX10_right_156 2 rfl (fun x23 => [(13, iv x23), (9, jv x22), (11, jv x19), (0, rn w l0), (1, iv l1), (3, iv l3), (5, jv l5), (7, jv l7)]) (by decide) (fun _ => rfl) (fun x23 => ?_)
    refine zv_goto (tgt := 98) dX10_right_159 (by decide) ?_
    exact zv_sub (L' := [(9, jv x22), (11, jv x19), (13, iv x23), (0, rn w l0), (1, iv l1), (3, iv l3), (5, jv l5), (7, jv l7)]) [1, 2, 0, 3, 4, 5, 6, 7] rfl (zv_exit (fun h => h))
  refine zv_lconst (z := 1) dX10_right_148 (by decide) ?_
  refine zv_goto (tgt := 153) dX10_right_149 (by decide) ?_
  refine zv_ladd dX10_right_153 ?_
  refine zv_lstore dX10_right_154 (fun x24 => [(9, jv x24), (11, jv x19), (13, iv y13), (0, rn w l0), (1, iv l1), (3, iv l3), (5, jv l5), (7, jv l7)]) (by decide) (fun _ => rfl) (fun x24 => ?_)
  refine zv_iinc dX10_right_156 2 rfl (fun x25 => [(13, iv x25), (9, jv x24), (11, jv x19), (0, rn w l0), (1, iv l1), (3, iv l3), (5, jv l5), (7, jv l7)]) (by decide) (fun _ => rfl) (fun x25 => ?_)
  refine zv_goto (tgt := 98) dX10_right_159 (by decide) ?_
  exact zv_sub (L' := [(9, jv x24), (11, jv x19), (13, iv x25), (0, rn w l0), (1, iv l1), (3, iv l3), (5, jv l5), (7, jv l7)]) [1, 2, 0, 3, 4, 5, 6, 7] rfl (zv_exit (fun h => h))
set_option maxRecDepth 20000 in
theorem c_X10_right (l : Launch) {w : zW} (hw : zWk w)  (p0 : Nat) (p1 : Int) (p2 : Int) (p3 : Int) (M0 : zM) (hp0 : ztag w.1 p0 = 11) : zCn l yX10_right cX10_right 14 (some .long) (6) 2 w [rn w p0, iv p1, iv p2, iv p3] M0 (f_X10_right w.1 p0 p1 p2 p3 M0) := by
  have hT := hw.1
  refine zCn_of (own := RX10) (by decide) rfl hw (Nat.le_of_ble_eq_true rfl) [(0, rn w p0), (1, iv p1), (2, iv p2), (3, iv p3)] rfl ?_
  intro κ hl
  subst hl
  unfold f_X10_right
  refine zv_iload_n dX10_right_0 1 rfl ?_
  refine zv_if_lt (tgt := 23) dX10_right_1 (by decide) ?_ ?_
  · refine zv_ldc2 (z := (-1)) dX10_right_23 zwK_RX10_279 (by decide) ?_
    exact zv_ret (fun h => h) (zv_lret dX10_right_26)
  refine zv_iload_n dX10_right_4 1 rfl ?_
  refine zv_iconst (z := 3) dX10_right_5 ?_
  refine zv_icmp_gt (tgt := 23) dX10_right_6 (by decide) ?_ ?_
  · refine zv_ldc2 (z := (-1)) dX10_right_23 zwK_RX10_279 (by decide) ?_
    exact zv_ret (fun h => h) (zv_lret dX10_right_26)
  refine zv_iload_n dX10_right_9 2 rfl ?_
  refine zv_pc (zv_callSi [iv p2] (c_X10_isAge κ.2.1 hw p2 M0 ) zmd_X10_isAge zwT_X10_isAge zwM_RX10_197 rfl (by decide) rfl (Nat.le_of_ble_eq_true rfl) dX10_right_10 (fun mh2 v1 h2 => ?_))
  obtain rfl := zpuE h2
  refine zv_if_eq (tgt := 23) dX10_right_13 (by decide) ?_ ?_
  · refine zv_ldc2 (z := (-1)) dX10_right_23 zwK_RX10_279 (by decide) ?_
    exact zv_ret (fun h => h) (zv_lret dX10_right_26)
  refine zv_iload_n dX10_right_16 3 rfl ?_
  refine zv_pc (zv_callSi [iv p3] (c_X10_isPart κ.2.1 hw p3 M0 ) zmd_X10_isPart zwT_X10_isPart zwM_RX10_200 rfl (by decide) rfl (Nat.le_of_ble_eq_true rfl) dX10_right_17 (fun mh4 v3 h4 => ?_))
  obtain rfl := zpuE h4
  refine zv_if_ne (tgt := 27) dX10_right_20 (by decide) ?_ ?_
  · refine zv_rload_n dX10_right_27 0 rfl ?_
    refine zv_iload_n dX10_right_28 2 rfl ?_
    refine (zv_callVr [iv p2] (c_X10_viewAt κ.2.1 hw p0 p2 M0 hp0) zmd_X10_viewAt zwI_X10_viewAt zwS_X10_viewAt zwM_RX10_236 zcd_10 hp0 rfl (by decide) rfl (Nat.le_of_ble_eq_true rfl) dX10_right_29 (fun M6 v5 _ => ?_))
    refine zv_gd (fun h7 => ?_)
    refine zv_rstore_p (L' := [(4, rn w (v5.toNat)), (0, rn w p0), (1, iv p1), (2, iv p2), (3, iv p3)]) dX10_right_32 (by decide) rfl ?_
    refine zv_rload_n dX10_right_34 1 rfl ?_
    refine zv_iload_n dX10_right_35 2 rfl ?_
    refine zv_iload_n dX10_right_36 3 rfl ?_
    refine zv_rload dX10_right_37 0 rfl ?_
    refine (zv_callVi [iv p1, iv p2, rn w (v5.toNat)] (c_X10_sumFish κ.2.1 hw p0 p1 p2 (v5.toNat) M6 hp0 h7) zmd_X10_sumFish zwI_X10_sumFish zwS_X10_sumFish zwM_RX10_303 zcd_10 hp0 rfl (by decide) rfl (Nat.le_of_ble_eq_true rfl) dX10_right_39 (fun M9 v8 _ => ?_))
    refine zv_i2l dX10_right_42 ?_
    refine zv_lstore_p (L' := [(5, jv v8), (4, rn w (v5.toNat)), (0, rn w p0), (1, iv p1), (2, iv p2), (3, iv p3)]) dX10_right_43 (by decide) rfl ?_
    refine zv_lconst (z := 0) dX10_right_45 (by decide) ?_
    refine zv_lstore_p (L' := [(7, jv 0), (5, jv v8), (4, rn w (v5.toNat)), (0, rn w p0), (1, iv p1), (2, iv p2), (3, iv p3)]) dX10_right_46 (by decide) rfl ?_
    refine zv_iconst (z := 0) dX10_right_48 ?_
    refine zv_istore_p (L' := [(9, iv 0), (7, jv 0), (5, jv v8), (4, rn w (v5.toNat)), (0, rn w p0), (1, iv p1), (2, iv p2), (3, iv p3)]) dX10_right_49 (by decide) rfl ?_
    refine zv_join2 89 (fun x16 M17 => [(0, rn w p0), (1, iv p1), (3, iv p3), (5, jv v8), (7, jv x16)]) (fun x16 M17 => []) (fun x16 M17 => M17) (zv_sub (L' := [(7, jv 0), (9, iv 0), (0, rn w p0), (1, iv p1), (2, iv p2), (3, iv p3), (4, rn w (v5.toNat)), (5, jv v8)]) [1, 0, 4, 5, 6, 7, 3, 2] rfl (vl_X10_right_51 hw p0 p1 p2 p3 (v5.toNat) v8 hp0 h7 _ (fun _ _ h => h) 0 0 M9)) (fun x16 M17 => ?_)
    refine zv_lconst (z := 0) dX10_right_89 (by decide) ?_
    refine zv_lstore_p (L' := [(9, jv 0), (0, rn w p0), (1, iv p1), (3, iv p3), (5, jv v8), (7, jv x16)]) dX10_right_90 (by decide) rfl ?_
    refine zv_lconst (z := 0) dX10_right_92 (by decide) ?_
    refine zv_lstore_p (L' := [(11, jv 0), (9, jv 0), (0, rn w p0), (1, iv p1), (3, iv p3), (5, jv v8), (7, jv x16)]) dX10_right_93 (by decide) rfl ?_
    refine zv_iconst (z := 0) dX10_right_95 ?_
    refine zv_istore_p (L' := [(13, iv 0), (11, jv 0), (9, jv 0), (0, rn w p0), (1, iv p1), (3, iv p3), (5, jv v8), (7, jv x16)]) dX10_right_96 (by decide) rfl ?_
    refine zv_join2 162 (fun x26 x27 => [(0, rn w p0), (3, iv p3), (5, jv v8), (7, jv x16), (9, jv x26), (11, jv x27)]) (fun x26 x27 => []) (fun x26 x27 => M17) (zv_sub (L' := [(9, jv 0), (11, jv 0), (13, iv 0), (0, rn w p0), (1, iv p1), (3, iv p3), (5, jv v8), (7, jv x16)]) [2, 1, 0, 3, 4, 5, 6, 7] rfl (vl_X10_right_98 hw p0 p1 p3 v8 x16 hp0 M17 _ (fun _ _ h => h) 0 0 0)) (fun x26 x27 => ?_)
    refine zv_lload dX10_right_162 2 rfl ?_
    refine zv_lconst (z := 0) dX10_right_164 (by decide) ?_
    refine zv_lcmp_eq (tgt := 176) dX10_right_165 dX10_right_166 (by decide) ?_ ?_
    · refine zv_ldc2 (z := (-1)) dX10_right_176 zwK_RX10_279 (by decide) ?_
      exact zv_ret (fun h => h) (zv_lret dX10_right_179)
    refine zv_lload dX10_right_169 5 rfl ?_
    refine zv_lconst (z := 0) dX10_right_171 (by decide) ?_
    refine zv_lcmp_ne (tgt := 180) dX10_right_172 dX10_right_173 (by decide) ?_ ?_
    · refine zv_rload_n dX10_right_180 0 rfl ?_
      refine zg_RX10_63 dX10_right_181 hp0 ?_
      refine zv_lload dX10_right_184 4 rfl ?_
      refine zv_lload dX10_right_186 3 rfl ?_
      refine zv_lmul dX10_right_188 ?_
      refine zv_lload dX10_right_189 2 rfl ?_
      refine zv_lload dX10_right_191 5 rfl ?_
      refine zv_lmul dX10_right_193 ?_
      refine zv_vc (zv_callVv [jv (x26 * x16), jv (v8 * x27)] (c_X5_put κ.2.1 hw (zfr w.1 p0 8) (x26 * x16) (v8 * x27) M17 (zta_10_8 hT hp0)) zmd_X5_put zwI_X5_put zwS_X5_put zwM_RX10_289 zcd_5 (zta_10_8 hT hp0) rfl (by decide) rfl (Nat.le_of_ble_eq_true rfl) dX10_right_194 (fun M28 _ _ => ?_))
      refine zv_rload_n dX10_right_197 0 rfl ?_
      refine zg_RX10_63 dX10_right_198 hp0 ?_
      refine zv_iload_n dX10_right_201 1 rfl ?_
      refine zv_pc (zv_callVl [iv p3] (c_X5_part κ.2.1 hw (zfr w.1 p0 8) p3 M28 (zta_10_8 hT hp0)) zmd_X5_part zwI_X5_part zwS_X5_part zwM_RX10_292 zcd_5 (zta_10_8 hT hp0) rfl (by decide) rfl (Nat.le_of_ble_eq_true rfl) dX10_right_202 (fun mh30 v29 h30 => ?_))
      obtain rfl := zpuE h30
      exact zv_ret (fun h => h) (zv_lret dX10_right_205)
    refine zv_ldc2 (z := (-1)) dX10_right_176 zwK_RX10_279 (by decide) ?_
    exact zv_ret (fun h => h) (zv_lret dX10_right_179)
  refine zv_ldc2 (z := (-1)) dX10_right_23 zwK_RX10_279 (by decide) ?_
  exact zv_ret (fun h => h) (zv_lret dX10_right_26)
def fb_X10_surestFind_5 (k : zK)  (l0 : Nat) (l1 : Int) (l2 : Int) (M0 : zM) (y3 : Int) (y4 : Int) : Option ((Int × Int) ⊕ (Int)) :=
  zbr y4 (M0 (zfr k l0 1) 17) (M0 (zfr k l0 1) 17 ≤ y4) (some (.inr y3)) (zgd (0 ≤ y4 ∧ y4 < 60) (zbr (M0 (zfr k (zfr k l0 1) 6) y4.toNat) l1 (¬ M0 (zfr k (zfr k l0 1) 6) y4.toNat = l1) (zlt (y4 + 1) (fun x1 => some (.inl (y3, x1)))) (zgd (0 ≤ y4 ∧ y4 < 60) (zbr (M0 (zfr k (zfr k l0 1) 8) y4.toNat) l2 (l2 < M0 (zfr k (zfr k l0 1) 8) y4.toNat) (zlt (y4 + 1) (fun x2 => some (.inl (y3, x2)))) (zgd (0 ≤ y4 ∧ y4 < 60) (zbr l2 (M0 (zfr k (zfr k l0 1) 9) y4.toNat) (M0 (zfr k (zfr k l0 1) 9) y4.toNat < l2) (zlt (y4 + 1) (fun x3 => some (.inl (y3, x3)))) (zgd (0 ≤ y4 ∧ y4 < 60) (zb1 (zbr (M0 (zfr k (zfr k l0 1) 7) y4.toNat) 0 (¬ M0 (zfr k (zfr k l0 1) 7) y4.toNat = 0) (some (3)) (some (2))) (fun x4 => zgd (zr y3 ∧ zr x4) (zlt (zmax y3 x4) (fun x5 => zlt (y4 + 1) (fun x6 => some (.inl (x5, x6))))))))))))))
def f_X10_surestFind (k : zK)  (p0 : Nat) (p1 : Int) (p2 : Int) (M0 : zM) : Option Int :=
  zb1 (zw2 (fb_X10_surestFind_5 k p0 p1 p2 M0) zfu 0 0) (fun x7 => some x7)
theorem vl_X10_surestFind_5 {κ : zC} {w : zW} (hw : zWk w)  (l0 : Nat) (l1 : Int) (l2 : Int) (g0 : ztag w.1 l0 = 11) (M0 : zM) (E : (Int) → Prop) (hX : ∀ (u3 : Int), E u3 → zB cX10_surestFind RX10 5 (some .int) κ w (0, 0, 1) 88 [(3, iv u3)] [] M0)  (y3 : Int) (y4 : Int) :
    zV cX10_surestFind RX10 5 (some .int) κ w (0, 0, 1) 5 [(3, iv y3), (4, iv y4), (0, rn w l0), (1, iv l1), (2, iv l2)] [] M0 (zw2 (fb_X10_surestFind_5 w.1 l0 l1 l2 M0) zfu y3 y4) E := by
  have hT := hw.1
  refine zv_loop2 (fun y3 y4 => [(3, iv y3), (4, iv y4), (0, rn w l0), (1, iv l1), (2, iv l2)]) (fun y3 y4 => M0) (fun y3 y4 => ?_) y3 y4
  unfold fb_X10_surestFind_5
  refine zv_iload dX10_surestFind_5 1 rfl ?_
  refine zv_rload_n dX10_surestFind_7 2 rfl ?_
  refine zg_RX10_19 dX10_surestFind_8 g0 ?_
  refine zg_RX10_148 dX10_surestFind_11 (zta_10_1 hT g0) ?_
  refine zv_icmp_ge (tgt := 88) dX10_surestFind_14 (by decide) ?_ ?_
  · exact zv_sub (L' := [(3, iv y3)]) [0] rfl (zv_exit (fun h => hX _ h))
  refine zv_rload_n dX10_surestFind_17 2 rfl ?_
  refine zg_RX10_19 dX10_surestFind_18 g0 ?_
  refine zg_RX10_151 dX10_surestFind_21 (zta_10_1 hT g0) ?_
  refine zv_iload dX10_surestFind_24 1 rfl ?_
  refine zv_iald dX10_surestFind_26 (zta_7_6 hT (zta_10_1 hT g0)) (ztl_7_6 hT (zta_10_1 hT g0)) (by decide) ?_
  refine zv_iload_n dX10_surestFind_27 3 rfl ?_
  refine zv_icmp_ne (tgt := 82) dX10_surestFind_28 (by decide) ?_ ?_
  · refine zv_iinc dX10_surestFind_82 1 rfl (fun x1 => [(4, iv x1), (3, iv y3), (0, rn w l0), (1, iv l1), (2, iv l2)]) (by decide) (fun _ => rfl) (fun x1 => ?_)
    refine zv_goto (tgt := 5) dX10_surestFind_85 (by decide) ?_
    exact zv_sub (L' := [(3, iv y3), (4, iv x1), (0, rn w l0), (1, iv l1), (2, iv l2)]) [1, 0, 2, 3, 4] rfl (zv_exit (fun h => h))
  refine zv_rload_n dX10_surestFind_31 2 rfl ?_
  refine zg_RX10_19 dX10_surestFind_32 g0 ?_
  refine zg_RX10_157 dX10_surestFind_35 (zta_10_1 hT g0) ?_
  refine zv_iload dX10_surestFind_38 1 rfl ?_
  refine zv_iald dX10_surestFind_40 (zta_7_8 hT (zta_10_1 hT g0)) (ztl_7_8 hT (zta_10_1 hT g0)) (by decide) ?_
  refine zv_iload_n dX10_surestFind_41 4 rfl ?_
  refine zv_icmp_gt (tgt := 82) dX10_surestFind_42 (by decide) ?_ ?_
  · refine zv_iinc dX10_surestFind_82 1 rfl (fun x2 => [(4, iv x2), (3, iv y3), (0, rn w l0), (1, iv l1), (2, iv l2)]) (by decide) (fun _ => rfl) (fun x2 => ?_)
    refine zv_goto (tgt := 5) dX10_surestFind_85 (by decide) ?_
    exact zv_sub (L' := [(3, iv y3), (4, iv x2), (0, rn w l0), (1, iv l1), (2, iv l2)]) [1, 0, 2, 3, 4] rfl (zv_exit (fun h => h))
  refine zv_iload_n dX10_surestFind_45 4 rfl ?_
  refine zv_rload_n dX10_surestFind_46 2 rfl ?_
  refine zg_RX10_19 dX10_surestFind_47 g0 ?_
  refine zg_RX10_160 dX10_surestFind_50 (zta_10_1 hT g0) ?_
  refine zv_iload dX10_surestFind_53 1 rfl ?_
  refine zv_iald dX10_surestFind_55 (zta_7_9 hT (zta_10_1 hT g0)) (ztl_7_9 hT (zta_10_1 hT g0)) (by decide) ?_
  refine zv_icmp_gt (tgt := 82) dX10_surestFind_56 (by decide) ?_ ?_
  · refine zv_iinc dX10_surestFind_82 1 rfl (fun x3 => [(4, iv x3), (3, iv y3), (0, rn w l0), (1, iv l1), (2, iv l2)]) (by decide) (fun _ => rfl) (fun x3 => ?_)
    refine zv_goto (tgt := 5) dX10_surestFind_85 (by decide) ?_
    exact zv_sub (L' := [(3, iv y3), (4, iv x3), (0, rn w l0), (1, iv l1), (2, iv l2)]) [1, 0, 2, 3, 4] rfl (zv_exit (fun h => h))
  refine zv_iload_n dX10_surestFind_59 0 rfl ?_
  refine zv_rload_n dX10_surestFind_60 2 rfl ?_
  refine zg_RX10_19 dX10_surestFind_61 g0 ?_
  refine zg_RX10_154 dX10_surestFind_64 (zta_10_1 hT g0) ?_
  refine zv_iload dX10_surestFind_67 1 rfl ?_
  refine zv_iald dX10_surestFind_69 (zta_7_7 hT (zta_10_1 hT g0)) (ztl_7_7 hT (zta_10_1 hT g0)) (by decide) ?_
  refine zv_join1 78 (fun x4 => [(4, iv y4), (0, rn w l0), (1, iv l1), (2, iv l2)]) (fun x4 => [iv x4, iv y3]) (fun x4 => M0) ?_ (fun x4 => ?_)
  · refine zv_if_ne (tgt := 77) dX10_surestFind_70 (by decide) ?_ ?_
    · refine zv_iconst (z := 3) dX10_surestFind_77 ?_
      exact zv_sub (L' := [(4, iv y4), (0, rn w l0), (1, iv l1), (2, iv l2)]) [1, 2, 3, 4] rfl (zv_exit (fun h => h))
    refine zv_iconst (z := 2) dX10_surestFind_73 ?_
    refine zv_goto (tgt := 78) dX10_surestFind_74 (by decide) ?_
    exact zv_sub (L' := [(4, iv y4), (0, rn w l0), (1, iv l1), (2, iv l2)]) [1, 2, 3, 4] rfl (zv_exit (fun h => h))
  refine zv_mmax zwM_RX10_369 (by decide) (Nat.le_of_ble_eq_true rfl) dX10_surestFind_78 ?_
  refine zv_istore_n (i := 3) (by rfl) dX10_surestFind_81 (fun x5 => [(3, iv x5), (4, iv y4), (0, rn w l0), (1, iv l1), (2, iv l2)]) (by decide) (fun _ => rfl) (fun x5 => ?_)
  refine zv_iinc dX10_surestFind_82 1 rfl (fun x6 => [(4, iv x6), (3, iv x5), (0, rn w l0), (1, iv l1), (2, iv l2)]) (by decide) (fun _ => rfl) (fun x6 => ?_)
  refine zv_goto (tgt := 5) dX10_surestFind_85 (by decide) ?_
  exact zv_sub (L' := [(3, iv x5), (4, iv x6), (0, rn w l0), (1, iv l1), (2, iv l2)]) [1, 0, 2, 3, 4] rfl (zv_exit (fun h => h))
theorem c_X10_surestFind (l : Launch) {w : zW} (hw : zWk w)  (p0 : Nat) (p1 : Int) (p2 : Int) (M0 : zM) (hp0 : ztag w.1 p0 = 11) : zCn l yX10_surestFind cX10_surestFind 5 (some .int) (1) 1 w [rn w p0, iv p1, iv p2] M0 ((f_X10_surestFind w.1 p0 p1 p2 M0).map fun v => (M0, v)) := by
  have hT := hw.1
  refine zCn_ofP (own := RX10) (by decide) rfl hw (Nat.le_of_ble_eq_true rfl) [(0, rn w p0), (1, iv p1), (2, iv p2)] rfl ?_
  intro κ hl
  subst hl
  unfold f_X10_surestFind
  refine zv_iconst (z := 0) dX10_surestFind_0 ?_
  refine zv_istore_np (L' := [(3, iv 0), (0, rn w p0), (1, iv p1), (2, iv p2)]) (by rfl) dX10_surestFind_1 (by decide) rfl ?_
  refine zv_iconst (z := 0) dX10_surestFind_2 ?_
  refine zv_istore_p (L' := [(4, iv 0), (3, iv 0), (0, rn w p0), (1, iv p1), (2, iv p2)]) dX10_surestFind_3 (by decide) rfl ?_
  refine zv_join1 88 (fun x7 => [(3, iv x7)]) (fun x7 => []) (fun x7 => M0) (zv_sub (L' := [(3, iv 0), (4, iv 0), (0, rn w p0), (1, iv p1), (2, iv p2)]) [1, 0, 2, 3, 4] rfl (vl_X10_surestFind_5 hw p0 p1 p2 hp0 M0 _ (fun _ h => h) 0 0)) (fun x7 => ?_)
  refine zv_iload_n dX10_surestFind_88 0 rfl ?_
  exact zv_ret (fun h => h) (zv_iret dX10_surestFind_89)
def f_X10_say (k : zK)  (p0 : Nat) (p1 : Int) (p2 : Int) (M0 : zM) : Option (zM × Int) :=
  zb1 (f_X10_isCell k p1 M0) (fun v1 => zbr v1 0 (v1 = 0) (some (M0, (-2))) (zb1 (f_X10_isAge k p2 M0) (fun v3 => zbr v3 0 (¬ v3 = 0) (zbd (f_X10_viewAt k p0 p2 M0) (fun M6 v5 => zgd (ztag k v5.toNat = 9) (zgd (0 ≤ p1 ∧ p1 < 256) (zbr (M6 (zfr k (v5.toNat) 0) p1.toNat) 0 (¬ M6 (zfr k (v5.toNat) 0) p1.toNat = 0) (zb1 (f_X10_surestFind k p0 p1 p2 M6) (fun v8 => zbr v8 0 (v8 = 0) (zb1 (f_X10_reckonLeft k p0 p1 (v5.toNat) M6) (fun M10 => zbl (2 * (M10 (zfr k p0 8) 0)) (M10 (zfr k p0 8) 1) (2 * (M10 (zfr k p0 8) 0) < M10 (zfr k p0 8) 1) (some (M10, 0)) (some (M10, 1)))) (some (M6, v8)))) (some (M6, (-1))))))) (some (M0, (-2))))))
theorem c_X10_say (l : Launch) {w : zW} (hw : zWk w)  (p0 : Nat) (p1 : Int) (p2 : Int) (M0 : zM) (hp0 : ztag w.1 p0 = 11) : zCn l yX10_say cX10_say 5 (some .int) (6) 1 w [rn w p0, iv p1, iv p2] M0 (f_X10_say w.1 p0 p1 p2 M0) := by
  have hT := hw.1
  refine zCn_of (own := RX10) (by decide) rfl hw (Nat.le_of_ble_eq_true rfl) [(0, rn w p0), (1, iv p1), (2, iv p2)] rfl ?_
  intro κ hl
  subst hl
  unfold f_X10_say
  refine zv_iload_n dX10_say_0 1 rfl ?_
  refine zv_pc (zv_callSi [iv p1] (c_X10_isCell κ.2.1 hw p1 M0 ) zmd_X10_isCell zwT_X10_isCell zwM_RX10_92 rfl (by decide) rfl (Nat.le_of_ble_eq_true rfl) dX10_say_1 (fun mh2 v1 h2 => ?_))
  obtain rfl := zpuE h2
  refine zv_if_eq (tgt := 14) dX10_say_4 (by decide) ?_ ?_
  · refine zv_bipush (z := (-2)) dX10_say_14 (by decide) ?_
    exact zv_ret (fun h => h) (zv_iret dX10_say_16)
  refine zv_iload_n dX10_say_7 2 rfl ?_
  refine zv_pc (zv_callSi [iv p2] (c_X10_isAge κ.2.1 hw p2 M0 ) zmd_X10_isAge zwT_X10_isAge zwM_RX10_197 rfl (by decide) rfl (Nat.le_of_ble_eq_true rfl) dX10_say_8 (fun mh4 v3 h4 => ?_))
  obtain rfl := zpuE h4
  refine zv_if_ne (tgt := 17) dX10_say_11 (by decide) ?_ ?_
  · refine zv_rload_n dX10_say_17 0 rfl ?_
    refine zv_iload_n dX10_say_18 2 rfl ?_
    refine (zv_callVr [iv p2] (c_X10_viewAt κ.2.1 hw p0 p2 M0 hp0) zmd_X10_viewAt zwI_X10_viewAt zwS_X10_viewAt zwM_RX10_236 zcd_10 hp0 rfl (by decide) rfl (Nat.le_of_ble_eq_true rfl) dX10_say_19 (fun M6 v5 _ => ?_))
    refine zv_gd (fun h7 => ?_)
    refine zv_rstore_np (L' := [(3, rn w (v5.toNat)), (0, rn w p0), (1, iv p1), (2, iv p2)]) (by rfl) dX10_say_22 (by decide) rfl ?_
    refine zv_rload_n dX10_say_23 0 rfl ?_
    refine zg_RX10_240 dX10_say_24 h7 ?_
    refine zv_iload_n dX10_say_27 2 rfl ?_
    refine zv_zald dX10_say_28 (zta_8_0 hT h7) (ztl_8_0 hT h7) (by decide) ?_
    refine zv_if_ne (tgt := 34) dX10_say_29 (by decide) ?_ ?_
    · refine zv_rload_n dX10_say_34 1 rfl ?_
      refine zv_iload_n dX10_say_35 2 rfl ?_
      refine zv_iload_n dX10_say_36 3 rfl ?_
      refine zv_pc (zv_callVi [iv p1, iv p2] (c_X10_surestFind κ.2.1 hw p0 p1 p2 M6 hp0) zmd_X10_surestFind zwI_X10_surestFind zwS_X10_surestFind zwM_RX10_357 zcd_10 hp0 rfl (by decide) rfl (Nat.le_of_ble_eq_true rfl) dX10_say_37 (fun mh9 v8 h9 => ?_))
      obtain rfl := zpuE h9
      refine zv_istore_p (L' := [(4, iv v8), (3, rn w (v5.toNat)), (0, rn w p0), (1, iv p1), (2, iv p2)]) dX10_say_40 (by decide) rfl ?_
      refine zv_iload dX10_say_42 0 rfl ?_
      refine zv_if_eq (tgt := 50) dX10_say_44 (by decide) ?_ ?_
      · refine zv_rload_n dX10_say_50 2 rfl ?_
        refine zv_iload_n dX10_say_51 3 rfl ?_
        refine zv_rload_n dX10_say_52 1 rfl ?_
        refine zv_vc (zv_callVv [iv p1, rn w (v5.toNat)] (c_X10_reckonLeft κ.2.1 hw p0 p1 (v5.toNat) M6 hp0 h7) zmd_X10_reckonLeft zwI_X10_reckonLeft zwS_X10_reckonLeft zwM_RX10_299 zcd_10 hp0 rfl (by decide) rfl (Nat.le_of_ble_eq_true rfl) dX10_say_53 (fun M10 _ _ => ?_))
        refine zv_ldc2 (z := 2) dX10_say_56 zwK_RX10_360 (by decide) ?_
        refine zv_rload_n dX10_say_59 2 rfl ?_
        refine zg_RX10_63 dX10_say_60 hp0 ?_
        refine zg_RX10_362 dX10_say_63 (zta_10_8 hT hp0) ?_
        refine zv_lmul dX10_say_66 ?_
        refine zv_rload_n dX10_say_67 2 rfl ?_
        refine zg_RX10_63 dX10_say_68 hp0 ?_
        refine zg_RX10_366 dX10_say_71 (zta_10_8 hT hp0) ?_
        refine zv_lcmp_lt (tgt := 82) dX10_say_74 dX10_say_75 (by decide) ?_ ?_
        · refine zv_iconst (z := 0) dX10_say_82 ?_
          exact zv_ret (fun h => h) (zv_iret dX10_say_83)
        refine zv_iconst (z := 1) dX10_say_78 ?_
        refine zv_goto (tgt := 83) dX10_say_79 (by decide) ?_
        exact zv_ret (fun h => h) (zv_iret dX10_say_83)
      refine zv_iload dX10_say_47 0 rfl ?_
      exact zv_ret (fun h => h) (zv_iret dX10_say_49)
    refine zv_iconst (z := (-1)) dX10_say_32 ?_
    exact zv_ret (fun h => h) (zv_iret dX10_say_33)
  refine zv_bipush (z := (-2)) dX10_say_14 (by decide) ?_
  exact zv_ret (fun h => h) (zv_iret dX10_say_16)
def f_X10_sea (k : zK)  (p0 : Nat) (p1 : Int) (p2 : Int) (M0 : zM) : Option Int :=
  zb1 (f_X10_isAge k p1 M0) (fun v1 => zbr v1 0 (v1 = 0) (some (-1)) (zb1 (f_X10_isPart k p2 M0) (fun v3 => zbr v3 0 (¬ v3 = 0) (zbr p2 0 (¬ p2 = 0) (zgd (ztag k (M0 p0 10).toNat = 4 ∧ (M0 p0 10).toNat ≠ 0) (zlt (M0 p0 10).toNat (fun q5 => zgd (0 ≤ p1 ∧ p1 < 100) (some (M0 (zfr k q5 9) p1.toNat))))) (zgd (ztag k (M0 p0 10).toNat = 4 ∧ (M0 p0 10).toNat ≠ 0) (zlt (M0 p0 10).toNat (fun q7 => zgd (0 ≤ p1 ∧ p1 < 100) (some (M0 (zfr k q7 8) p1.toNat)))))) (some (-1)))))
theorem c_X10_sea (l : Launch) {w : zW} (hw : zWk w)  (p0 : Nat) (p1 : Int) (p2 : Int) (M0 : zM) (hp0 : ztag w.1 p0 = 11) : zCn l yX10_sea cX10_sea 3 (some .int) (1) 1 w [rn w p0, iv p1, iv p2] M0 ((f_X10_sea w.1 p0 p1 p2 M0).map fun v => (M0, v)) := by
  have hT := hw.1
  refine zCn_ofP (own := RX10) (by decide) rfl hw (Nat.le_of_ble_eq_true rfl) [(0, rn w p0), (1, iv p1), (2, iv p2)] rfl ?_
  intro κ hl
  subst hl
  unfold f_X10_sea
  refine zv_iload_n dX10_sea_0 1 rfl ?_
  refine zv_pc (zv_callSi [iv p1] (c_X10_isAge κ.2.1 hw p1 M0 ) zmd_X10_isAge zwT_X10_isAge zwM_RX10_197 rfl (by decide) rfl (Nat.le_of_ble_eq_true rfl) dX10_sea_1 (fun mh2 v1 h2 => ?_))
  obtain rfl := zpuE h2
  refine zv_if_eq (tgt := 14) dX10_sea_4 (by decide) ?_ ?_
  · refine zv_iconst (z := (-1)) dX10_sea_14 ?_
    exact zv_ret (fun h => h) (zv_iret dX10_sea_15)
  refine zv_iload_n dX10_sea_7 2 rfl ?_
  refine zv_pc (zv_callSi [iv p2] (c_X10_isPart κ.2.1 hw p2 M0 ) zmd_X10_isPart zwT_X10_isPart zwM_RX10_200 rfl (by decide) rfl (Nat.le_of_ble_eq_true rfl) dX10_sea_8 (fun mh4 v3 h4 => ?_))
  obtain rfl := zpuE h4
  refine zv_if_ne (tgt := 16) dX10_sea_11 (by decide) ?_ ?_
  · refine zv_iload_n dX10_sea_16 2 rfl ?_
    refine zv_if_ne (tgt := 32) dX10_sea_17 (by decide) ?_ ?_
    · refine zv_rload_n dX10_sea_32 0 rfl ?_
      refine zg_RX10_74 dX10_sea_33 hp0 (fun q5 h6 => ?_)
      refine zg_RX10_206 dX10_sea_36 h6 ?_
      refine zv_iload_n dX10_sea_39 1 rfl ?_
      refine zv_iald dX10_sea_40 (zta_3_9 hT h6) (ztl_3_9 hT h6) (by decide) ?_
      exact zv_ret (fun h => h) (zv_iret dX10_sea_41)
    refine zv_rload_n dX10_sea_20 0 rfl ?_
    refine zg_RX10_74 dX10_sea_21 hp0 (fun q7 h8 => ?_)
    refine zg_RX10_203 dX10_sea_24 h8 ?_
    refine zv_iload_n dX10_sea_27 1 rfl ?_
    refine zv_iald dX10_sea_28 (zta_3_8 hT h8) (ztl_3_8 hT h8) (by decide) ?_
    refine zv_goto (tgt := 41) dX10_sea_29 (by decide) ?_
    exact zv_ret (fun h => h) (zv_iret dX10_sea_41)
  refine zv_iconst (z := (-1)) dX10_sea_14 ?_
  exact zv_ret (fun h => h) (zv_iret dX10_sea_15)
def fb_X9_lay_27 (k : zK) (rc_X9_lay : Nat → Int → Int → Int → zM → Option zM) (l0 : Nat) (l1 : Int) (l2 : Int) (l3 : Int) (l5 : Int) (y6 : Int) (M0 : zM) : Option ((Int × zM) ⊕ (zM)) :=
  zb1 (zbr l5 0 (l5 = 0) (some (0)) (some (l2))) (fun x2 => zbr y6 x2 (y6 < x2) (some (.inr M0)) (zgd (0 ≤ l1 ∧ l1 < 10) (zlt (zst M0 (zfr k l0 2) l1.toNat (y6)) (fun M3 => zgd (0 ≤ (l1 * 7) + y6 ∧ (l1 * 7) + y6 < 70) (zgd (0 ≤ l3 * (M3 (zfr k l0 3) ((l1 * 7) + y6).toNat) ∧ l3 * (M3 (zfr k l0 3) ((l1 * 7) + y6).toNat) ≤ 9223372036854775807) (zlt ((l3 * (M3 (zfr k l0 3) ((l1 * 7) + y6).toNat)) / 1000000) (fun x4 => zbr l5 0 (¬ l5 = 0) (zbl x4 (M3 l0 1) (M3 l0 1 ≤ x4) (zlt (y6 + (-1)) (fun x5 => some (.inl (x5, M3)))) (zlt (zst M3 l0 1 x4) (fun M6 => zgd (0 ≤ (10 : Int) ∧ (10 : Int) ≤ 10 ∧ (10 : Int) ≤ 10) (zlt (zcp M6 (zfr k l0 2) (zfr k l0 0) (Int.toNat 10)) (fun M7 => zlt (y6 + (-1)) (fun x8 => some (.inl (x8, M7)))))))) (zb1 (rc_X9_lay l0 (l1 + 1) (l2 - y6) x4 M3) (fun M9 => zlt (y6 + (-1)) (fun x10 => some (.inl (x10, M9))))))))))))
def fo_X9_lay (k : zK) (rc_X9_lay : Nat → Int → Int → Int → zM → Option zM) (p0 : Nat) (p1 : Int) (p2 : Int) (p3 : Int) (M0 : zM) : Option zM :=
  zbr p1 10 (p1 < 10) (zb1 (zbr p1 ((M0 p0 4) - 1) (p1 < (M0 p0 4) - 1) (some (0)) (some (1))) (fun x1 => zb1 (zw2 (fb_X9_lay_27 k rc_X9_lay p0 p1 p2 p3 x1) zfu p2 M0) (fun M11 => some M11))) (some M0)
set_option maxRecDepth 20000 in
theorem vl_X9_lay_27 {κ : zC} {w : zW} (hw : zWk w) (dd : Nat) (rc_X9_lay : Nat → Int → Int → Int → zM → Option zM) (hrc_X9_lay : ∀ (p0 : Nat) (p1 : Int) (p2 : Int) (p3 : Int) (M0 : zM), ztag w.1 p0 = 10 → zCn κ.2.1 yX9_lay cX9_lay 9 none (0 + dd) 0 w [rn w p0, iv p1, iv p2, jv p3] M0 ((rc_X9_lay p0 p1 p2 p3 M0).map fun m => (m, (0 : Int)))) (l0 : Nat) (l1 : Int) (l2 : Int) (l3 : Int) (l5 : Int) (g0 : ztag w.1 l0 = 10)  (E : (zM) → Prop) (hX : ∀  (M1 : zM), E M1 → zB cX9_lay RX9 9 none κ w (0, 0, 0 + dd + 1) 128 [] [] M1)  (y6 : Int) (M0 : zM) :
    zV cX9_lay RX9 9 none κ w (0, 0, 0 + dd + 1) 27 [(6, iv y6), (0, rn w l0), (1, iv l1), (2, iv l2), (3, jv l3), (5, iv l5)] [] M0 (zw2 (fb_X9_lay_27 w.1 rc_X9_lay l0 l1 l2 l3 l5) zfu y6 M0) E := by
  have hT := hw.1
  refine zv_loop2 (fun y6 M0 => [(6, iv y6), (0, rn w l0), (1, iv l1), (2, iv l2), (3, jv l3), (5, iv l5)]) (fun y6 M0 => M0) (fun y6 M0 => ?_) y6 M0
  unfold fb_X9_lay_27
  refine zv_iload dX9_lay_27 0 rfl ?_
  refine zv_iload dX9_lay_29 5 rfl ?_
  refine zv_join1 39 (fun x2 => [(6, iv y6), (0, rn w l0), (1, iv l1), (2, iv l2), (3, jv l3), (5, iv l5)]) (fun x2 => [iv x2, iv y6]) (fun x2 => M0) ?_ (fun x2 => ?_)
  · refine zv_if_eq (tgt := 38) dX9_lay_31 (by decide) ?_ ?_
    · refine zv_iconst (z := 0) dX9_lay_38 ?_
      exact zv_sub (L' := [(6, iv y6), (0, rn w l0), (1, iv l1), (2, iv l2), (3, jv l3), (5, iv l5)]) [0, 1, 2, 3, 4, 5] rfl (zv_exit (fun h => h))
    refine zv_iload_n dX9_lay_34 3 rfl ?_
    refine zv_goto (tgt := 39) dX9_lay_35 (by decide) ?_
    exact zv_sub (L' := [(6, iv y6), (0, rn w l0), (1, iv l1), (2, iv l2), (3, jv l3), (5, iv l5)]) [0, 1, 2, 3, 4, 5] rfl (zv_exit (fun h => h))
  refine zv_icmp_lt (tgt := 128) dX9_lay_39 (by decide) ?_ ?_
  · exact zv_sub (L' := []) [] rfl (zv_exit (fun h => hX _ h))
  refine zv_rload_n dX9_lay_42 1 rfl ?_
  refine zg_RX9_21 dX9_lay_43 g0 ?_
  refine zv_iload_n dX9_lay_46 2 rfl ?_
  refine zv_iload dX9_lay_47 0 rfl ?_
  refine zv_iast dX9_lay_49 (zta_9_2 hT g0) (ztl_9_2 hT g0) (by decide) (fun M3 => ?_)
  refine zv_lload_n dX9_lay_50 4 rfl ?_
  refine zv_rload_n dX9_lay_51 1 rfl ?_
  refine zg_RX9_24 dX9_lay_52 g0 ?_
  refine zv_iload_n dX9_lay_55 2 rfl ?_
  refine zv_bipush (z := 7) dX9_lay_56 (by decide) ?_
  refine zv_imul dX9_lay_58 ?_
  refine zv_iload dX9_lay_59 0 rfl ?_
  refine zv_iadd dX9_lay_61 ?_
  refine zv_lald dX9_lay_62 (zta_9_3 hT g0) (ztl_9_3 hT g0) (by decide) ?_
  refine zv_lmul dX9_lay_63 ?_
  refine zv_ldc2 (z := 1000000) dX9_lay_64 zwK_RX9_15 (by decide) ?_
  refine zv_ldivc (by decide) dX9_lay_67 ?_
  refine zv_lstore dX9_lay_68 (fun x4 => [(7, jv x4), (6, iv y6), (0, rn w l0), (1, iv l1), (2, iv l2), (3, jv l3), (5, iv l5)]) (by decide) (fun _ => rfl) (fun x4 => ?_)
  refine zv_iload dX9_lay_70 6 rfl ?_
  refine zv_if_ne (tgt := 91) dX9_lay_72 (by decide) ?_ ?_
  · refine zv_lload dX9_lay_91 0 rfl ?_
    refine zv_rload_n dX9_lay_93 2 rfl ?_
    refine zg_RX9_17 dX9_lay_94 g0 ?_
    refine zv_lcmp_ge (tgt := 122) dX9_lay_97 dX9_lay_98 (by decide) ?_ ?_
    · refine zv_iinc dX9_lay_122 1 rfl (fun x5 => [(6, iv x5), (7, jv x4), (0, rn w l0), (1, iv l1), (2, iv l2), (3, jv l3), (5, iv l5)]) (by decide) (fun _ => rfl) (fun x5 => ?_)
      refine zv_goto (tgt := 27) dX9_lay_125 (by decide) ?_
      exact zv_sub (L' := [(6, iv x5), (0, rn w l0), (1, iv l1), (2, iv l2), (3, jv l3), (5, iv l5)]) [0, 2, 3, 4, 5, 6] rfl (zv_exit (fun h => h))
    refine zv_rload_n dX9_lay_101 2 rfl ?_
    refine zv_lload dX9_lay_102 0 rfl ?_
    refine zp_RX9_17 dX9_lay_104 g0 (fun M6 => ?_)
    refine zv_rload_n dX9_lay_107 2 rfl ?_
    refine zg_RX9_21 dX9_lay_108 g0 ?_
    refine zv_iconst (z := 0) dX9_lay_111 ?_
    refine zv_rload_n dX9_lay_112 2 rfl ?_
    refine zg_RX9_9 dX9_lay_113 g0 ?_
    refine zv_iconst (z := 0) dX9_lay_116 ?_
    refine zv_bipush (z := 10) dX9_lay_117 (by decide) ?_
    refine zv_copy zwM_RX9_46 (by show 1 ≤ 0 + dd + 1; omega) (Nat.le_of_ble_eq_true rfl) (zta_9_2 hT g0) (zta_9_0 hT g0) (ztl_9_2 hT g0) (ztl_9_0 hT g0) (by decide) dX9_lay_119 (fun M7 => ?_)
    refine zv_iinc dX9_lay_122 1 rfl (fun x8 => [(6, iv x8), (7, jv x4), (0, rn w l0), (1, iv l1), (2, iv l2), (3, jv l3), (5, iv l5)]) (by decide) (fun _ => rfl) (fun x8 => ?_)
    refine zv_goto (tgt := 27) dX9_lay_125 (by decide) ?_
    exact zv_sub (L' := [(6, iv x8), (0, rn w l0), (1, iv l1), (2, iv l2), (3, jv l3), (5, iv l5)]) [0, 2, 3, 4, 5, 6] rfl (zv_exit (fun h => h))
  refine zv_rload_n dX9_lay_75 2 rfl ?_
  refine zv_iload_n dX9_lay_76 3 rfl ?_
  refine zv_iconst (z := 1) dX9_lay_77 ?_
  refine zv_iadd dX9_lay_78 ?_
  refine zv_iload_n dX9_lay_79 4 rfl ?_
  refine zv_iload dX9_lay_80 1 rfl ?_
  refine zv_isub dX9_lay_82 ?_
  refine zv_lload dX9_lay_83 0 rfl ?_
  refine zv_vc (zv_callVv [iv (l1 + 1), iv (l2 - y6), jv x4] (hrc_X9_lay l0 (l1 + 1) (l2 - y6) x4 M3 g0) zmd_X9_lay zwI_X9_lay zwS_X9_lay zwM_RX9_42 zcd_9 g0 rfl (by show 0 + dd + 1 ≤ 0 + dd + 1; omega) rfl (Nat.le_of_ble_eq_true rfl) dX9_lay_85 (fun M9 _ _ => ?_))
  refine zv_goto (tgt := 122) dX9_lay_88 (by decide) ?_
  refine zv_iinc dX9_lay_122 1 rfl (fun x10 => [(6, iv x10), (7, jv x4), (0, rn w l0), (1, iv l1), (2, iv l2), (3, jv l3), (5, iv l5)]) (by decide) (fun _ => rfl) (fun x10 => ?_)
  refine zv_goto (tgt := 27) dX9_lay_125 (by decide) ?_
  exact zv_sub (L' := [(6, iv x10), (0, rn w l0), (1, iv l1), (2, iv l2), (3, jv l3), (5, iv l5)]) [0, 2, 3, 4, 5, 6] rfl (zv_exit (fun h => h))
theorem co_X9_lay (l : Launch) {w : zW} (hw : zWk w) (dd : Nat) (rc_X9_lay : Nat → Int → Int → Int → zM → Option zM) (hrc_X9_lay : ∀ (p0 : Nat) (p1 : Int) (p2 : Int) (p3 : Int) (M0 : zM), ztag w.1 p0 = 10 → zCn l yX9_lay cX9_lay 9 none (0 + dd) 0 w [rn w p0, iv p1, iv p2, jv p3] M0 ((rc_X9_lay p0 p1 p2 p3 M0).map fun m => (m, (0 : Int)))) (p0 : Nat) (p1 : Int) (p2 : Int) (p3 : Int) (M0 : zM) (hp0 : ztag w.1 p0 = 10) : zCn l yX9_lay cX9_lay 9 none (0 + dd + 1) 0 w [rn w p0, iv p1, iv p2, jv p3] M0 ((fo_X9_lay w.1 rc_X9_lay p0 p1 p2 p3 M0).map fun m => (m, (0 : Int))) := by
  have hT := hw.1
  refine zCn_ofV (own := RX9) (by decide) rfl hw (Nat.le_of_ble_eq_true rfl) [(0, rn w p0), (1, iv p1), (2, iv p2), (3, jv p3)] rfl ?_
  intro κ hl
  subst hl
  unfold fo_X9_lay
  refine zv_iload_n dX9_lay_0 1 rfl ?_
  refine zv_bipush (z := 10) dX9_lay_1 (by decide) ?_
  refine zv_icmp_lt (tgt := 7) dX9_lay_3 (by decide) ?_ ?_
  · refine zv_iload_n dX9_lay_7 1 rfl ?_
    refine zv_rload_n dX9_lay_8 0 rfl ?_
    refine zg_RX9_28 dX9_lay_9 hp0 ?_
    refine zv_iconst (z := 1) dX9_lay_12 ?_
    refine zv_isub dX9_lay_13 ?_
    refine zv_join1 22 (fun x1 => [(0, rn w p0), (1, iv p1), (2, iv p2), (3, jv p3)]) (fun x1 => [iv x1]) (fun x1 => M0) ?_ (fun x1 => ?_)
    · refine zv_icmp_lt (tgt := 21) dX9_lay_14 (by decide) ?_ ?_
      · refine zv_iconst (z := 0) dX9_lay_21 ?_
        exact zv_sub (L' := [(0, rn w p0), (1, iv p1), (2, iv p2), (3, jv p3)]) [0, 1, 2, 3] rfl (zv_exit (fun h => h))
      refine zv_iconst (z := 1) dX9_lay_17 ?_
      refine zv_goto (tgt := 22) dX9_lay_18 (by decide) ?_
      exact zv_sub (L' := [(0, rn w p0), (1, iv p1), (2, iv p2), (3, jv p3)]) [0, 1, 2, 3] rfl (zv_exit (fun h => h))
    refine zv_istore_p (L' := [(5, iv x1), (0, rn w p0), (1, iv p1), (2, iv p2), (3, jv p3)]) dX9_lay_22 (by decide) rfl ?_
    refine zv_iload_n dX9_lay_24 3 rfl ?_
    refine zv_istore_p (L' := [(6, iv p2), (5, iv x1), (0, rn w p0), (1, iv p1), (2, iv p2), (3, jv p3)]) dX9_lay_25 (by decide) rfl ?_
    refine zv_join1 128 (fun M11 => []) (fun M11 => []) (fun M11 => M11) (zv_sub (L' := [(6, iv p2), (0, rn w p0), (1, iv p1), (2, iv p2), (3, jv p3), (5, iv x1)]) [0, 2, 3, 4, 5, 1] rfl (vl_X9_lay_27 hw dd rc_X9_lay hrc_X9_lay p0 p1 p2 p3 x1 hp0 _ (fun _ h => h) p2 M0)) (fun M11 => ?_)
    exact zv_ret (fun h => h) (zv_vret (v := 0) dX9_lay_128)
  exact zv_ret (fun h => h) (zv_vret (v := 0) dX9_lay_6)
def fG_lay (k : zK) : Nat → (Nat → Int → Int → Int → zM → Option zM)
  | 0 => fun _ _ _ _ _ => none
  | n + 1 => fo_X9_lay k ((fG_lay k n))
theorem cG_lay (l : Launch) {w : zW} (hw : zWk w) : ∀ n : Nat, (∀ (p0 : Nat) (p1 : Int) (p2 : Int) (p3 : Int) (M0 : zM), ztag w.1 p0 = 10 → zCn l yX9_lay cX9_lay 9 none (0 + n) 0 w [rn w p0, iv p1, iv p2, jv p3] M0 (((fG_lay w.1 n) p0 p1 p2 p3 M0).map fun m => (m, (0 : Int))))
  := by
  intro n
  induction n with
  | zero =>
    exact fun _ _ _ _ _ _ => fun _ _ h => (by cases h)
  | succ n ih =>
    exact fun p0 p1 p2 p3 M0 hp0 => co_X9_lay l hw n ((fG_lay w.1 n)) ih p0 p1 p2 p3 M0 hp0
def f_X9_lay (k : zK) (p0 : Nat) (p1 : Int) (p2 : Int) (p3 : Int) (M0 : zM) : Option zM := (fG_lay k 12) p0 p1 p2 p3 M0
theorem c_X9_lay (l : Launch) {w : zW} (hw : zWk w) (p0 : Nat) (p1 : Int) (p2 : Int) (p3 : Int) (M0 : zM) (hp0 : ztag w.1 p0 = 10) : zCn l yX9_lay cX9_lay 9 none (12) 0 w [rn w p0, iv p1, iv p2, jv p3] M0 ((f_X9_lay w.1 p0 p1 p2 p3 M0).map fun m => (m, (0 : Int))) := cG_lay l hw 12 p0 p1 p2 p3 M0 hp0
def f_X9_choose (k : zK)  (p0 : Nat) (p1 : Int) (p2 : Int) (p3 : Int) (M0 : zM) : Option zM :=
  zlt (zst M0 p0 5 p1) (fun M1 => zlt (zst M1 p0 6 p2) (fun M2 => zlt (zst M2 p0 4 p3) (fun M3 => zlt (zst M3 p0 1 1000001) (fun M4 => zb1 (f_X9_lay k p0 0 p1 1000000 M4) (fun M5 => some M5)))))
theorem c_X9_choose (l : Launch) {w : zW} (hw : zWk w)  (p0 : Nat) (p1 : Int) (p2 : Int) (p3 : Int) (M0 : zM) (hp0 : ztag w.1 p0 = 10) : zCn l yX9_choose cX9_choose 4 none (13) 0 w [rn w p0, iv p1, iv p2, iv p3] M0 ((f_X9_choose w.1 p0 p1 p2 p3 M0).map fun m => (m, (0 : Int))) := by
  have hT := hw.1
  refine zCn_ofV (own := RX9) (by decide) rfl hw (Nat.le_of_ble_eq_true rfl) [(0, rn w p0), (1, iv p1), (2, iv p2), (3, iv p3)] rfl ?_
  intro κ hl
  subst hl
  unfold f_X9_choose
  refine zv_rload_n dX9_choose_0 0 rfl ?_
  refine zv_iload_n dX9_choose_1 1 rfl ?_
  refine zp_RX9_32 dX9_choose_2 hp0 (fun M1 => ?_)
  refine zv_rload_n dX9_choose_5 0 rfl ?_
  refine zv_iload_n dX9_choose_6 2 rfl ?_
  refine zp_RX9_35 dX9_choose_7 hp0 (fun M2 => ?_)
  refine zv_rload_n dX9_choose_10 0 rfl ?_
  refine zv_iload_n dX9_choose_11 3 rfl ?_
  refine zp_RX9_28 dX9_choose_12 hp0 (fun M3 => ?_)
  refine zv_rload_n dX9_choose_15 0 rfl ?_
  refine zv_ldc2 (z := 1000001) dX9_choose_16 zwK_RX9_40 (by decide) ?_
  refine zp_RX9_17 dX9_choose_19 hp0 (fun M4 => ?_)
  refine zv_rload_n dX9_choose_22 0 rfl ?_
  refine zv_iconst (z := 0) dX9_choose_23 ?_
  refine zv_iload_n dX9_choose_24 1 rfl ?_
  refine zv_ldc2 (z := 1000000) dX9_choose_25 zwK_RX9_15 (by decide) ?_
  refine zv_vc (zv_callVv [iv 0, iv p1, jv 1000000] (c_X9_lay κ.2.1 hw p0 0 p1 1000000 M4 hp0) zmd_X9_lay zwI_X9_lay zwS_X9_lay zwM_RX9_42 zcd_9 hp0 rfl (by decide) rfl (Nat.le_of_ble_eq_true rfl) dX9_choose_28 (fun M5 _ _ => ?_))
  exact zv_ret (fun h => h) (zv_vret (v := 0) dX9_choose_31)
def f_X9_isOf (k : zK)  (p0 : Nat) (p1 : Int) (p2 : Int) (M0 : zM) : Option Int :=
  zbr (M0 p0 6) p2 (¬ M0 p0 6 = p2) (some 0) (zbr (M0 p0 5) p1 (¬ M0 p0 5 = p1) (some 0) (some 1))
theorem c_X9_isOf (l : Launch) {w : zW} (hw : zWk w)  (p0 : Nat) (p1 : Int) (p2 : Int) (M0 : zM) (hp0 : ztag w.1 p0 = 10) : zCn l yX9_isOf cX9_isOf 3 (some .boolean) (0) 1 w [rn w p0, iv p1, iv p2] M0 ((f_X9_isOf w.1 p0 p1 p2 M0).map fun v => (M0, v)) := by
  have hT := hw.1
  refine zCn_ofP (own := RX9) (by decide) rfl hw (Nat.le_of_ble_eq_true rfl) [(0, rn w p0), (1, iv p1), (2, iv p2)] rfl ?_
  intro κ hl
  subst hl
  unfold f_X9_isOf
  refine zv_rload_n dX9_isOf_0 0 rfl ?_
  refine zg_RX9_35 dX9_isOf_1 hp0 ?_
  refine zv_iload_n dX9_isOf_4 2 rfl ?_
  refine zv_icmp_ne (tgt := 20) dX9_isOf_5 (by decide) ?_ ?_
  · refine zv_iconst (z := 0) dX9_isOf_20 ?_
    exact zv_ret (fun h => h) (zv_zrB (by decide) dX9_isOf_21)
  refine zv_rload_n dX9_isOf_8 0 rfl ?_
  refine zg_RX9_32 dX9_isOf_9 hp0 ?_
  refine zv_iload_n dX9_isOf_12 1 rfl ?_
  refine zv_icmp_ne (tgt := 20) dX9_isOf_13 (by decide) ?_ ?_
  · refine zv_iconst (z := 0) dX9_isOf_20 ?_
    exact zv_ret (fun h => h) (zv_zrB (by decide) dX9_isOf_21)
  refine zv_iconst (z := 1) dX9_isOf_16 ?_
  refine zv_goto (tgt := 21) dX9_isOf_17 (by decide) ?_
  exact zv_ret (fun h => h) (zv_zrB (by decide) dX9_isOf_21)
def f_X10_ship (k : zK)  (p0 : Nat) (p1 : Int) (p2 : Int) (p3 : Int) (M0 : zM) : Option (zM × Int) :=
  zbr p1 1 (p1 < 1) (some (M0, (-1))) (zbr p1 6 (6 < p1) (some (M0, (-1))) (zb1 (f_X10_isAge k p2 M0) (fun v1 => zbr v1 0 (v1 = 0) (some (M0, (-1))) (zbr (M0 (zfr k p0 1) 18) 0 (¬ M0 (zfr k p0 1) 18 = 0) (zlt (p3 - 10) (fun x3 => zsp0 (zbr p3 0 (p3 = 0) (some (.inl ())) (zbr p3 10 (p3 < 10) (some (.inr (M0, (-1)))) (zbr x3 (M0 (zfr k p0 1) 18) (x3 < M0 (zfr k p0 1) 18) (some (.inl ())) (some (.inr (M0, (-1))))))) (fun r => some r) (zb1 (f_X9_isOf k (zfr k p0 7) p1 p2 M0) (fun v4 => zb1 (zbr v4 0 (¬ v4 = 0) (some (M0)) (zbd (f_X10_viewAt k p0 p2 M0) (fun M7 v6 => zgd (ztag k v6.toNat = 9) (zb1 (f_X10_layOut k p0 (v6.toNat) M7) (fun M9 => zb1 (f_X9_choose k (zfr k p0 7) p1 p2 (M9 (zfr k p0 1) 18) M9) (fun M10 => some (M10))))))) (fun M11 => zbr p3 0 (¬ p3 = 0) (zgd (0 ≤ x3 ∧ x3 < 10) (some (M11, M11 (zfr k (zfr k p0 7) 0) x3.toNat))) (some (M11, 1000000 - (M11 (zfr k p0 7) 1)))))))) (some (M0, (-1)))))))
set_option maxRecDepth 20000 in
theorem c_X10_ship (l : Launch) {w : zW} (hw : zWk w)  (p0 : Nat) (p1 : Int) (p2 : Int) (p3 : Int) (M0 : zM) (hp0 : ztag w.1 p0 = 11) : zCn l yX10_ship cX10_ship 5 (some .int) (14) 1 w [rn w p0, iv p1, iv p2, iv p3] M0 (f_X10_ship w.1 p0 p1 p2 p3 M0) := by
  have hT := hw.1
  refine zCn_of (own := RX10) (by decide) rfl hw (Nat.le_of_ble_eq_true rfl) [(0, rn w p0), (1, iv p1), (2, iv p2), (3, iv p3)] rfl ?_
  intro κ hl
  subst hl
  unfold f_X10_ship
  refine zv_iload_n dX10_ship_0 1 rfl ?_
  refine zv_iconst (z := 1) dX10_ship_1 ?_
  refine zv_icmp_lt (tgt := 28) dX10_ship_2 (by decide) ?_ ?_
  · refine zv_iconst (z := (-1)) dX10_ship_28 ?_
    exact zv_ret (fun h => h) (zv_iret dX10_ship_29)
  refine zv_iload_n dX10_ship_5 1 rfl ?_
  refine zv_bipush (z := 6) dX10_ship_6 (by decide) ?_
  refine zv_icmp_gt (tgt := 28) dX10_ship_8 (by decide) ?_ ?_
  · refine zv_iconst (z := (-1)) dX10_ship_28 ?_
    exact zv_ret (fun h => h) (zv_iret dX10_ship_29)
  refine zv_iload_n dX10_ship_11 2 rfl ?_
  refine zv_pc (zv_callSi [iv p2] (c_X10_isAge κ.2.1 hw p2 M0 ) zmd_X10_isAge zwT_X10_isAge zwM_RX10_197 rfl (by decide) rfl (Nat.le_of_ble_eq_true rfl) dX10_ship_12 (fun mh2 v1 h2 => ?_))
  obtain rfl := zpuE h2
  refine zv_if_eq (tgt := 28) dX10_ship_15 (by decide) ?_ ?_
  · refine zv_iconst (z := (-1)) dX10_ship_28 ?_
    exact zv_ret (fun h => h) (zv_iret dX10_ship_29)
  refine zv_rload_n dX10_ship_18 0 rfl ?_
  refine zg_RX10_19 dX10_ship_19 hp0 ?_
  refine zg_RX10_172 dX10_ship_22 (zta_10_1 hT hp0) ?_
  refine zv_if_ne (tgt := 30) dX10_ship_25 (by decide) ?_ ?_
  · refine zv_iload_n dX10_ship_30 3 rfl ?_
    refine zv_bipush (z := 10) dX10_ship_31 (by decide) ?_
    refine zv_isub dX10_ship_33 ?_
    refine zv_istore dX10_ship_34 (fun x3 => [(4, iv x3), (0, rn w p0), (1, iv p1), (2, iv p2), (3, iv p3)]) (by decide) (fun _ => rfl) (fun x3 => ?_)
    refine zv_iload_n dX10_ship_36 4 rfl ?_
    refine zv_joinS0 (fun r => r) 60 ([(4, iv x3), (0, rn w p0), (1, iv p1), (2, iv p2), (3, iv p3)]) ([]) (M0) ?_ (?_)
    · refine zv_if_eq (tgt := 60) dX10_ship_37 (by decide) ?_ ?_
      · exact zv_sub (L' := [(4, iv x3), (0, rn w p0), (1, iv p1), (2, iv p2), (3, iv p3)]) [0, 1, 2, 3, 4] rfl (zv_exit (fun h => h))
      refine zv_iload_n dX10_ship_40 4 rfl ?_
      refine zv_bipush (z := 10) dX10_ship_41 (by decide) ?_
      refine zv_icmp_lt (tgt := 58) dX10_ship_43 (by decide) ?_ ?_
      · refine zv_iconst (z := (-1)) dX10_ship_58 ?_
        exact zv_ret (fun h => h) (zv_iret dX10_ship_59)
      refine zv_iload dX10_ship_46 0 rfl ?_
      refine zv_rload_n dX10_ship_48 1 rfl ?_
      refine zg_RX10_19 dX10_ship_49 hp0 ?_
      refine zg_RX10_172 dX10_ship_52 (zta_10_1 hT hp0) ?_
      refine zv_icmp_lt (tgt := 60) dX10_ship_55 (by decide) ?_ ?_
      · exact zv_sub (L' := [(4, iv x3), (0, rn w p0), (1, iv p1), (2, iv p2), (3, iv p3)]) [0, 1, 2, 3, 4] rfl (zv_exit (fun h => h))
      refine zv_iconst (z := (-1)) dX10_ship_58 ?_
      exact zv_ret (fun h => h) (zv_iret dX10_ship_59)
    refine zv_rload_n dX10_ship_60 1 rfl ?_
    refine zg_RX10_56 dX10_ship_61 hp0 ?_
    refine zv_iload_n dX10_ship_64 2 rfl ?_
    refine zv_iload_n dX10_ship_65 3 rfl ?_
    refine zv_pc (zv_callVi [iv p1, iv p2] (c_X9_isOf κ.2.1 hw (zfr w.1 p0 7) p1 p2 M0 (zta_10_7 hT hp0)) zmd_X9_isOf zwI_X9_isOf zwS_X9_isOf zwM_RX10_388 zcd_9 (zta_10_7 hT hp0) rfl (by decide) rfl (Nat.le_of_ble_eq_true rfl) dX10_ship_66 (fun mh5 v4 h5 => ?_))
    obtain rfl := zpuE h5
    refine zv_join1 97 (fun M11 => [(4, iv x3), (0, rn w p0), (3, iv p3)]) (fun M11 => []) (fun M11 => M11) ?_ (fun M11 => ?_)
    · refine zv_if_ne (tgt := 97) dX10_ship_69 (by decide) ?_ ?_
      · exact zv_sub (L' := [(4, iv x3), (0, rn w p0), (3, iv p3)]) [0, 1, 4] rfl (zv_exit (fun h => h))
      refine zv_rload_n dX10_ship_72 1 rfl ?_
      refine zv_rload_n dX10_ship_73 1 rfl ?_
      refine zv_iload_n dX10_ship_74 3 rfl ?_
      refine (zv_callVr [iv p2] (c_X10_viewAt κ.2.1 hw p0 p2 M0 hp0) zmd_X10_viewAt zwI_X10_viewAt zwS_X10_viewAt zwM_RX10_236 zcd_10 hp0 rfl (by decide) rfl (Nat.le_of_ble_eq_true rfl) dX10_ship_75 (fun M7 v6 _ => ?_))
      refine zv_gd (fun h8 => ?_)
      refine zv_vc (zv_callVv [rn w (v6.toNat)] (c_X10_layOut κ.2.1 hw p0 (v6.toNat) M7 hp0 h8) zmd_X10_layOut zwI_X10_layOut zwS_X10_layOut zwM_RX10_391 zcd_10 hp0 rfl (by decide) rfl (Nat.le_of_ble_eq_true rfl) dX10_ship_78 (fun M9 _ _ => ?_))
      refine zv_rload_n dX10_ship_81 1 rfl ?_
      refine zg_RX10_56 dX10_ship_82 hp0 ?_
      refine zv_iload_n dX10_ship_85 2 rfl ?_
      refine zv_iload_n dX10_ship_86 3 rfl ?_
      refine zv_rload_n dX10_ship_87 1 rfl ?_
      refine zg_RX10_19 dX10_ship_88 hp0 ?_
      refine zg_RX10_172 dX10_ship_91 (zta_10_1 hT hp0) ?_
      refine zv_vc (zv_callVv [iv p1, iv p2, iv (M9 (zfr w.1 p0 1) 18)] (c_X9_choose κ.2.1 hw (zfr w.1 p0 7) p1 p2 (M9 (zfr w.1 p0 1) 18) M9 (zta_10_7 hT hp0)) zmd_X9_choose zwI_X9_choose zwS_X9_choose zwM_RX10_395 zcd_9 (zta_10_7 hT hp0) rfl (by decide) rfl (Nat.le_of_ble_eq_true rfl) dX10_ship_94 (fun M10 _ _ => ?_))
      exact zv_sub (L' := [(4, iv x3), (0, rn w p0), (3, iv p3)]) [0, 1, 4] rfl (zv_exit (fun h => h))
    refine zv_iload_n dX10_ship_97 2 rfl ?_
    refine zv_if_ne (tgt := 116) dX10_ship_98 (by decide) ?_ ?_
    · refine zv_rload_n dX10_ship_116 1 rfl ?_
      refine zg_RX10_56 dX10_ship_117 hp0 ?_
      refine zg_RX10_404 dX10_ship_120 (zta_10_7 hT hp0) ?_
      refine zv_iload dX10_ship_123 0 rfl ?_
      refine zv_iald dX10_ship_125 (zta_9_0 hT (zta_10_7 hT hp0)) (ztl_9_0 hT (zta_10_7 hT hp0)) (by decide) ?_
      exact zv_ret (fun h => h) (zv_iret dX10_ship_126)
    refine zv_ldc2 (z := 1000000) dX10_ship_101 zwK_RX10_399 (by decide) ?_
    refine zv_rload_n dX10_ship_104 1 rfl ?_
    refine zg_RX10_56 dX10_ship_105 hp0 ?_
    refine zg_RX10_401 dX10_ship_108 (zta_10_7 hT hp0) ?_
    refine zv_lsub dX10_ship_111 ?_
    refine zv_l2i dX10_ship_112 ?_
    refine zv_goto (tgt := 126) dX10_ship_113 (by decide) ?_
    exact zv_ret (fun h => h) (zv_iret dX10_ship_126)
  refine zv_iconst (z := (-1)) dX10_ship_28 ?_
  exact zv_ret (fun h => h) (zv_iret dX10_ship_29)
def fb_X10_shore_20 (k : zK)  (l2 : Nat) (M0 : zM) (y3 : Int) (y4 : Int) : Option ((Int × Int) ⊕ (Int)) :=
  zbr y4 256 (256 ≤ y4) (some (.inr y3)) (zb1 (f_X10_beside k y4 2 M0) (fun v6 => zb1 (f_X10_beside k y4 3 M0) (fun v8 => zb1 (zbr v6 (-1) (v6 = (-1)) (some (y3)) (zgd (0 ≤ y4 ∧ y4 < 256) (zgd (0 ≤ v6 ∧ v6 < 256) (zbr (M0 (zfr k l2 0) y4.toNat) (M0 (zfr k l2 0) v6.toNat) (M0 (zfr k l2 0) y4.toNat = M0 (zfr k l2 0) v6.toNat) (some (y3)) (zlt (y3 + 1) (fun x10 => some (x10))))))) (fun x11 => zbr v8 (-1) (v8 = (-1)) (zlt (y4 + 1) (fun x12 => some (.inl (x11, x12)))) (zgd (0 ≤ y4 ∧ y4 < 256) (zgd (0 ≤ v8 ∧ v8 < 256) (zbr (M0 (zfr k l2 0) y4.toNat) (M0 (zfr k l2 0) v8.toNat) (M0 (zfr k l2 0) y4.toNat = M0 (zfr k l2 0) v8.toNat) (zlt (y4 + 1) (fun x13 => some (.inl (x11, x13)))) (zlt (x11 + 1) (fun x14 => zlt (y4 + 1) (fun x15 => some (.inl (x14, x15))))))))))))
def f_X10_shore (k : zK)  (p0 : Nat) (p1 : Int) (M0 : zM) : Option (zM × Int) :=
  zb1 (f_X10_isAge k p1 M0) (fun v1 => zbr v1 0 (¬ v1 = 0) (zbd (f_X10_viewAt k p0 p1 M0) (fun M4 v3 => zgd (ztag k v3.toNat = 9) (zb1 (zw2 (fb_X10_shore_20 k (v3.toNat) M4) zfu 0 0) (fun x16 => some (M4, x16))))) (some (M0, (-1))))
theorem vl_X10_shore_20 {κ : zC} {w : zW} (hw : zWk w)  (l2 : Nat) (g2 : ztag w.1 l2 = 9) (M0 : zM) (E : (Int) → Prop) (hX : ∀ (u3 : Int), E u3 → zB cX10_shore RX10 7 (some .int) κ w (0, 0, 6) 102 [(3, iv u3)] [] M0)  (y3 : Int) (y4 : Int) :
    zV cX10_shore RX10 7 (some .int) κ w (0, 0, 6) 20 [(3, iv y3), (4, iv y4), (2, rn w l2)] [] M0 (zw2 (fb_X10_shore_20 w.1 l2 M0) zfu y3 y4) E := by
  have hT := hw.1
  refine zv_loop2 (fun y3 y4 => [(3, iv y3), (4, iv y4), (2, rn w l2)]) (fun y3 y4 => M0) (fun y3 y4 => ?_) y3 y4
  unfold fb_X10_shore_20
  refine zv_iload dX10_shore_20 1 rfl ?_
  refine zv_sipush (z := 256) dX10_shore_22 (by decide) ?_
  refine zv_icmp_ge (tgt := 102) dX10_shore_25 (by decide) ?_ ?_
  · exact zv_sub (L' := [(3, iv y3)]) [0] rfl (zv_exit (fun h => hX _ h))
  refine zv_iload dX10_shore_28 1 rfl ?_
  refine zv_iconst (z := 2) dX10_shore_30 ?_
  refine zv_pc (zv_callSi [iv y4, iv 2] (c_X10_beside κ.2.1 hw y4 2 M0 ) zmd_X10_beside zwT_X10_beside zwM_RX10_270 rfl (by decide) rfl (Nat.le_of_ble_eq_true rfl) dX10_shore_31 (fun mh7 v6 h7 => ?_))
  obtain rfl := zpuE h7
  refine zv_istore_p (L' := [(5, iv v6), (3, iv y3), (4, iv y4), (2, rn w l2)]) dX10_shore_34 (by decide) rfl ?_
  refine zv_iload dX10_shore_36 2 rfl ?_
  refine zv_iconst (z := 3) dX10_shore_38 ?_
  refine zv_pc (zv_callSi [iv y4, iv 3] (c_X10_beside κ.2.1 hw y4 3 M0 ) zmd_X10_beside zwT_X10_beside zwM_RX10_270 rfl (by decide) rfl (Nat.le_of_ble_eq_true rfl) dX10_shore_39 (fun mh9 v8 h9 => ?_))
  obtain rfl := zpuE h9
  refine zv_istore_p (L' := [(6, iv v8), (5, iv v6), (3, iv y3), (4, iv y4), (2, rn w l2)]) dX10_shore_42 (by decide) rfl ?_
  refine zv_iload dX10_shore_44 1 rfl ?_
  refine zv_iconst (z := (-1)) dX10_shore_46 ?_
  refine zv_join1 70 (fun x11 => [(3, iv x11), (6, iv v8), (4, iv y4), (2, rn w l2)]) (fun x11 => []) (fun x11 => M0) ?_ (fun x11 => ?_)
  · refine zv_icmp_eq (tgt := 70) dX10_shore_47 (by decide) ?_ ?_
    · exact zv_sub (L' := [(3, iv y3), (6, iv v8), (4, iv y4), (2, rn w l2)]) [2, 0, 3, 4] rfl (zv_exit (fun h => h))
    refine zv_rload_n dX10_shore_50 4 rfl ?_
    refine zg_RX10_240 dX10_shore_51 g2 ?_
    refine zv_iload dX10_shore_54 3 rfl ?_
    refine zv_zald dX10_shore_56 (zta_8_0 hT g2) (ztl_8_0 hT g2) (by decide) ?_
    refine zv_rload_n dX10_shore_57 4 rfl ?_
    refine zg_RX10_240 dX10_shore_58 g2 ?_
    refine zv_iload dX10_shore_61 1 rfl ?_
    refine zv_zald dX10_shore_63 (zta_8_0 hT g2) (ztl_8_0 hT g2) (by decide) ?_
    refine zv_icmp_eq (tgt := 70) dX10_shore_64 (by decide) ?_ ?_
    · exact zv_sub (L' := [(3, iv y3), (6, iv v8), (4, iv y4), (2, rn w l2)]) [2, 0, 3, 4] rfl (zv_exit (fun h => h))
    refine zv_iinc dX10_shore_67 2 rfl (fun x10 => [(3, iv x10), (6, iv v8), (5, iv v6), (4, iv y4), (2, rn w l2)]) (by decide) (fun _ => rfl) (fun x10 => ?_)
    exact zv_sub (L' := [(3, iv x10), (6, iv v8), (4, iv y4), (2, rn w l2)]) [0, 1, 3, 4] rfl (zv_exit (fun h => h))
  refine zv_iload dX10_shore_70 1 rfl ?_
  refine zv_iconst (z := (-1)) dX10_shore_72 ?_
  refine zv_icmp_eq (tgt := 96) dX10_shore_73 (by decide) ?_ ?_
  · refine zv_iinc dX10_shore_96 2 rfl (fun x12 => [(4, iv x12), (3, iv x11), (6, iv v8), (2, rn w l2)]) (by decide) (fun _ => rfl) (fun x12 => ?_)
    refine zv_goto (tgt := 20) dX10_shore_99 (by decide) ?_
    exact zv_sub (L' := [(3, iv x11), (4, iv x12), (2, rn w l2)]) [1, 0, 3] rfl (zv_exit (fun h => h))
  refine zv_rload_n dX10_shore_76 3 rfl ?_
  refine zg_RX10_240 dX10_shore_77 g2 ?_
  refine zv_iload dX10_shore_80 2 rfl ?_
  refine zv_zald dX10_shore_82 (zta_8_0 hT g2) (ztl_8_0 hT g2) (by decide) ?_
  refine zv_rload_n dX10_shore_83 3 rfl ?_
  refine zg_RX10_240 dX10_shore_84 g2 ?_
  refine zv_iload dX10_shore_87 1 rfl ?_
  refine zv_zald dX10_shore_89 (zta_8_0 hT g2) (ztl_8_0 hT g2) (by decide) ?_
  refine zv_icmp_eq (tgt := 96) dX10_shore_90 (by decide) ?_ ?_
  · refine zv_iinc dX10_shore_96 2 rfl (fun x13 => [(4, iv x13), (3, iv x11), (6, iv v8), (2, rn w l2)]) (by decide) (fun _ => rfl) (fun x13 => ?_)
    refine zv_goto (tgt := 20) dX10_shore_99 (by decide) ?_
    exact zv_sub (L' := [(3, iv x11), (4, iv x13), (2, rn w l2)]) [1, 0, 3] rfl (zv_exit (fun h => h))
  refine zv_iinc dX10_shore_93 0 rfl (fun x14 => [(3, iv x14), (6, iv v8), (4, iv y4), (2, rn w l2)]) (by decide) (fun _ => rfl) (fun x14 => ?_)
  refine zv_iinc dX10_shore_96 2 rfl (fun x15 => [(4, iv x15), (3, iv x14), (6, iv v8), (2, rn w l2)]) (by decide) (fun _ => rfl) (fun x15 => ?_)
  refine zv_goto (tgt := 20) dX10_shore_99 (by decide) ?_
  exact zv_sub (L' := [(3, iv x14), (4, iv x15), (2, rn w l2)]) [1, 0, 3] rfl (zv_exit (fun h => h))
theorem c_X10_shore (l : Launch) {w : zW} (hw : zWk w)  (p0 : Nat) (p1 : Int) (M0 : zM) (hp0 : ztag w.1 p0 = 11) : zCn l yX10_shore cX10_shore 7 (some .int) (6) 1 w [rn w p0, iv p1] M0 (f_X10_shore w.1 p0 p1 M0) := by
  have hT := hw.1
  refine zCn_of (own := RX10) (by decide) rfl hw (Nat.le_of_ble_eq_true rfl) [(0, rn w p0), (1, iv p1)] rfl ?_
  intro κ hl
  subst hl
  unfold f_X10_shore
  refine zv_iload_n dX10_shore_0 1 rfl ?_
  refine zv_pc (zv_callSi [iv p1] (c_X10_isAge κ.2.1 hw p1 M0 ) zmd_X10_isAge zwT_X10_isAge zwM_RX10_197 rfl (by decide) rfl (Nat.le_of_ble_eq_true rfl) dX10_shore_1 (fun mh2 v1 h2 => ?_))
  obtain rfl := zpuE h2
  refine zv_if_ne (tgt := 9) dX10_shore_4 (by decide) ?_ ?_
  · refine zv_rload_n dX10_shore_9 0 rfl ?_
    refine zv_iload_n dX10_shore_10 1 rfl ?_
    refine (zv_callVr [iv p1] (c_X10_viewAt κ.2.1 hw p0 p1 M0 hp0) zmd_X10_viewAt zwI_X10_viewAt zwS_X10_viewAt zwM_RX10_236 zcd_10 hp0 rfl (by decide) rfl (Nat.le_of_ble_eq_true rfl) dX10_shore_11 (fun M4 v3 _ => ?_))
    refine zv_gd (fun h5 => ?_)
    refine zv_rstore_np (L' := [(2, rn w (v3.toNat)), (0, rn w p0), (1, iv p1)]) (by rfl) dX10_shore_14 (by decide) rfl ?_
    refine zv_iconst (z := 0) dX10_shore_15 ?_
    refine zv_istore_np (L' := [(3, iv 0), (2, rn w (v3.toNat)), (0, rn w p0), (1, iv p1)]) (by rfl) dX10_shore_16 (by decide) rfl ?_
    refine zv_iconst (z := 0) dX10_shore_17 ?_
    refine zv_istore_p (L' := [(4, iv 0), (3, iv 0), (2, rn w (v3.toNat)), (0, rn w p0), (1, iv p1)]) dX10_shore_18 (by decide) rfl ?_
    refine zv_join1 102 (fun x16 => [(3, iv x16)]) (fun x16 => []) (fun x16 => M4) (zv_sub (L' := [(3, iv 0), (4, iv 0), (2, rn w (v3.toNat))]) [1, 0, 2] rfl (vl_X10_shore_20 hw (v3.toNat) h5 M4 _ (fun _ h => h) 0 0)) (fun x16 => ?_)
    refine zv_iload_n dX10_shore_102 0 rfl ?_
    exact zv_ret (fun h => h) (zv_iret dX10_shore_103)
  refine zv_iconst (z := (-1)) dX10_shore_7 ?_
  exact zv_ret (fun h => h) (zv_iret dX10_shore_8)
def f_X10_sound (k : zK)  (p0 : Nat) (p1 : Int) (p2 : Int) (p3 : Int) (M0 : zM) : Option (zM × Int) :=
  zb1 (f_X10_isCell k p1 M0) (fun v1 => zsp1 (zbr v1 0 (v1 = 0) (some (.inl M0)) (zb1 (f_X10_isHeight k p2 M0) (fun v3 => zbr v3 0 (v3 = 0) (some (.inl M0)) (zb1 (f_X10_isHeight k p3 M0) (fun v5 => zbr v5 0 (v5 = 0) (some (.inl M0)) (zbr p3 p2 (p2 ≤ p3) (zgd (0 ≤ p1 ∧ p1 < 256) (zlt (zst M0 (zfr k (zfr k p0 1) 0) p1.toNat (p2)) (fun M7 => zgd (0 ≤ p1 ∧ p1 < 256) (zlt (zst M7 (zfr k (zfr k p0 1) 1) p1.toNat (p3)) (fun M8 => zb1 (f_X10_forgetGround k p0 M8) (fun M9 => some (.inr (M9, 1)))))))) (some (.inl M0)))))))) (fun r => some r) (fun M10 => zbd (f_X10_refuse k p0 0 M10) (fun M12 v11 => some (M12, 0))))
theorem c_X10_sound (l : Launch) {w : zW} (hw : zWk w)  (p0 : Nat) (p1 : Int) (p2 : Int) (p3 : Int) (M0 : zM) (hp0 : ztag w.1 p0 = 11) : zCn l yX10_sound cX10_sound 4 (some .boolean) (2) 1 w [rn w p0, iv p1, iv p2, iv p3] M0 (f_X10_sound w.1 p0 p1 p2 p3 M0) := by
  have hT := hw.1
  refine zCn_of (own := RX10) (by decide) rfl hw (Nat.le_of_ble_eq_true rfl) [(0, rn w p0), (1, iv p1), (2, iv p2), (3, iv p3)] rfl ?_
  intro κ hl
  subst hl
  unfold f_X10_sound
  refine zv_iload_n dX10_sound_0 1 rfl ?_
  refine zv_pc (zv_callSi [iv p1] (c_X10_isCell κ.2.1 hw p1 M0 ) zmd_X10_isCell zwT_X10_isCell zwM_RX10_92 rfl (by decide) rfl (Nat.le_of_ble_eq_true rfl) dX10_sound_1 (fun mh2 v1 h2 => ?_))
  obtain rfl := zpuE h2
  refine zv_joinS1 (fun r => r) 26 (fun M10 => [(0, rn w p0)]) (fun M10 => []) (fun M10 => M10) ?_ (fun M10 => ?_)
  · refine zv_if_eq (tgt := 26) dX10_sound_4 (by decide) ?_ ?_
    · exact zv_sub (L' := [(0, rn w p0)]) [0] rfl (zv_exit (fun h => h))
    refine zv_iload_n dX10_sound_7 2 rfl ?_
    refine zv_pc (zv_callSi [iv p2] (c_X10_isHeight κ.2.1 hw p2 M0 ) zmd_X10_isHeight zwT_X10_isHeight zwM_RX10_96 rfl (by decide) rfl (Nat.le_of_ble_eq_true rfl) dX10_sound_8 (fun mh4 v3 h4 => ?_))
    obtain rfl := zpuE h4
    refine zv_if_eq (tgt := 26) dX10_sound_11 (by decide) ?_ ?_
    · exact zv_sub (L' := [(0, rn w p0)]) [0] rfl (zv_exit (fun h => h))
    refine zv_iload_n dX10_sound_14 3 rfl ?_
    refine zv_pc (zv_callSi [iv p3] (c_X10_isHeight κ.2.1 hw p3 M0 ) zmd_X10_isHeight zwT_X10_isHeight zwM_RX10_96 rfl (by decide) rfl (Nat.le_of_ble_eq_true rfl) dX10_sound_15 (fun mh6 v5 h6 => ?_))
    obtain rfl := zpuE h6
    refine zv_if_eq (tgt := 26) dX10_sound_18 (by decide) ?_ ?_
    · exact zv_sub (L' := [(0, rn w p0)]) [0] rfl (zv_exit (fun h => h))
    refine zv_iload_n dX10_sound_21 3 rfl ?_
    refine zv_iload_n dX10_sound_22 2 rfl ?_
    refine zv_icmp_ge (tgt := 34) dX10_sound_23 (by decide) ?_ ?_
    · refine zv_rload_n dX10_sound_34 0 rfl ?_
      refine zg_RX10_19 dX10_sound_35 hp0 ?_
      refine zg_RX10_103 dX10_sound_38 (zta_10_1 hT hp0) ?_
      refine zv_iload_n dX10_sound_41 1 rfl ?_
      refine zv_iload_n dX10_sound_42 2 rfl ?_
      refine zv_iast dX10_sound_43 (zta_7_0 hT (zta_10_1 hT hp0)) (ztl_7_0 hT (zta_10_1 hT hp0)) (by decide) (fun M7 => ?_)
      refine zv_rload_n dX10_sound_44 0 rfl ?_
      refine zg_RX10_19 dX10_sound_45 hp0 ?_
      refine zg_RX10_106 dX10_sound_48 (zta_10_1 hT hp0) ?_
      refine zv_iload_n dX10_sound_51 1 rfl ?_
      refine zv_iload_n dX10_sound_52 3 rfl ?_
      refine zv_iast dX10_sound_53 (zta_7_1 hT (zta_10_1 hT hp0)) (ztl_7_1 hT (zta_10_1 hT hp0)) (by decide) (fun M8 => ?_)
      refine zv_rload_n dX10_sound_54 0 rfl ?_
      refine zv_vc (zv_callVv [] (c_X10_forgetGround κ.2.1 hw p0 M8 hp0) zmd_X10_forgetGround zwI_X10_forgetGround zwS_X10_forgetGround zwM_RX10_109 zcd_10 hp0 rfl (by decide) rfl (Nat.le_of_ble_eq_true rfl) dX10_sound_55 (fun M9 _ _ => ?_))
      refine zv_iconst (z := 1) dX10_sound_58 ?_
      exact zv_ret (fun h => h) (zv_zrB (by decide) dX10_sound_59)
    exact zv_sub (L' := [(0, rn w p0)]) [0] rfl (zv_exit (fun h => h))
  refine zv_rload_n dX10_sound_26 0 rfl ?_
  refine zv_iconst (z := 0) dX10_sound_27 ?_
  refine (zv_callVi [iv 0] (c_X10_refuse κ.2.1 hw p0 0 M10 hp0) zmd_X10_refuse zwI_X10_refuse zwS_X10_refuse zwM_RX10_99 zcd_10 hp0 rfl (by decide) rfl (Nat.le_of_ble_eq_true rfl) dX10_sound_28 (fun M12 v11 _ => ?_))
  refine zv_pop dX10_sound_31 rfl ?_
  refine zv_iconst (z := 0) dX10_sound_32 ?_
  exact zv_ret (fun h => h) (zv_zrB (by decide) dX10_sound_33)
def fb_X10_tried_16 (k : zK)  (l0 : Nat) (l1 : Int) (M0 : zM) (y2 : Int) (y3 : Int) (y4 : Int) : Option ((Int × Int × Int) ⊕ (Int × Int)) :=
  zbr y4 16 (16 ≤ y4) (some (.inr (y2, y3))) (zgd (0 ≤ y4 ∧ y4 < 16) (zgd (0 ≤ y4 ∧ y4 < 16) (zb1 (f_X10_offTogether k (M0 (zfr k (zfr k l0 1) 5) y4.toNat) (M0 (zfr k (zfr k l0 1) 4) y4.toNat) M0) (fun v3 => zlt (y2 + v3) (fun x5 => zgd (0 ≤ y4 ∧ y4 < 16) (zlt (y3 + (M0 (zfr k (zfr k l0 1) 5) y4.toNat)) (fun x6 => zlt (y4 + 1) (fun x7 => some (.inl (x5, x6, x7))))))))))
def f_X10_tried (k : zK)  (p0 : Nat) (p1 : Int) (M0 : zM) : Option Int :=
  zb1 (f_X10_isPart k p1 M0) (fun v1 => zbr v1 0 (¬ v1 = 0) (zb2 (zw3 (fb_X10_tried_16 k p0 p1 M0) zfu 0 0 0) (fun x8 x9 => zbr p1 0 (¬ p1 = 0) (zb1 (f_X10_offTogether k x9 (M0 (zfr k p0 1) 16) M0) (fun v10 => some v10)) (some x8))) (some (-1)))
theorem vl_X10_tried_16 {κ : zC} {w : zW} (hw : zWk w)  (l0 : Nat) (l1 : Int) (g0 : ztag w.1 l0 = 11) (M0 : zM) (E : (Int × Int) → Prop) (hX : ∀ (u2 : Int) (u3 : Int), E (u2, u3) → zB cX10_tried RX10 5 (some .int) κ w (0, 0, 1) 68 [(0, rn w l0), (1, iv l1), (2, iv u2), (3, iv u3)] [] M0)  (y2 : Int) (y3 : Int) (y4 : Int) :
    zV cX10_tried RX10 5 (some .int) κ w (0, 0, 1) 16 [(2, iv y2), (3, iv y3), (4, iv y4), (0, rn w l0), (1, iv l1)] [] M0 (zw3 (fb_X10_tried_16 w.1 l0 l1 M0) zfu y2 y3 y4) E := by
  have hT := hw.1
  refine zv_loop3 (fun y2 y3 y4 => [(2, iv y2), (3, iv y3), (4, iv y4), (0, rn w l0), (1, iv l1)]) (fun y2 y3 y4 => M0) (fun y2 y3 y4 => ?_) y2 y3 y4
  unfold fb_X10_tried_16
  refine zv_iload dX10_tried_16 2 rfl ?_
  refine zv_bipush (z := 16) dX10_tried_18 (by decide) ?_
  refine zv_icmp_ge (tgt := 68) dX10_tried_20 (by decide) ?_ ?_
  · exact zv_sub (L' := [(0, rn w l0), (1, iv l1), (2, iv y2), (3, iv y3)]) [3, 4, 0, 1] rfl (zv_exit (fun h => hX _ _ h))
  refine zv_iload_n dX10_tried_23 0 rfl ?_
  refine zv_rload_n dX10_tried_24 3 rfl ?_
  refine zg_RX10_19 dX10_tried_25 g0 ?_
  refine zg_RX10_135 dX10_tried_28 (zta_10_1 hT g0) ?_
  refine zv_iload dX10_tried_31 2 rfl ?_
  refine zv_iald dX10_tried_33 (zta_7_5 hT (zta_10_1 hT g0)) (ztl_7_5 hT (zta_10_1 hT g0)) (by decide) ?_
  refine zv_rload_n dX10_tried_34 3 rfl ?_
  refine zg_RX10_19 dX10_tried_35 g0 ?_
  refine zg_RX10_132 dX10_tried_38 (zta_10_1 hT g0) ?_
  refine zv_iload dX10_tried_41 2 rfl ?_
  refine zv_iald dX10_tried_43 (zta_7_4 hT (zta_10_1 hT g0)) (ztl_7_4 hT (zta_10_1 hT g0)) (by decide) ?_
  refine zv_pc (zv_callSi [iv (M0 (zfr w.1 (zfr w.1 l0 1) 5) y4.toNat), iv (M0 (zfr w.1 (zfr w.1 l0 1) 4) y4.toNat)] (c_X10_offTogether κ.2.1 hw (M0 (zfr w.1 (zfr w.1 l0 1) 5) y4.toNat) (M0 (zfr w.1 (zfr w.1 l0 1) 4) y4.toNat) M0 ) zmd_X10_offTogether zwT_X10_offTogether zwM_RX10_296 rfl (by decide) rfl (Nat.le_of_ble_eq_true rfl) dX10_tried_44 (fun mh4 v3 h4 => ?_))
  obtain rfl := zpuE h4
  refine zv_iadd dX10_tried_47 ?_
  refine zv_istore_n (i := 2) (by rfl) dX10_tried_48 (fun x5 => [(2, iv x5), (3, iv y3), (4, iv y4), (0, rn w l0), (1, iv l1)]) (by decide) (fun _ => rfl) (fun x5 => ?_)
  refine zv_iload_n dX10_tried_49 1 rfl ?_
  refine zv_rload_n dX10_tried_50 3 rfl ?_
  refine zg_RX10_19 dX10_tried_51 g0 ?_
  refine zg_RX10_135 dX10_tried_54 (zta_10_1 hT g0) ?_
  refine zv_iload dX10_tried_57 2 rfl ?_
  refine zv_iald dX10_tried_59 (zta_7_5 hT (zta_10_1 hT g0)) (ztl_7_5 hT (zta_10_1 hT g0)) (by decide) ?_
  refine zv_iadd dX10_tried_60 ?_
  refine zv_istore_n (i := 3) (by rfl) dX10_tried_61 (fun x6 => [(3, iv x6), (2, iv x5), (4, iv y4), (0, rn w l0), (1, iv l1)]) (by decide) (fun _ => rfl) (fun x6 => ?_)
  refine zv_iinc dX10_tried_62 2 rfl (fun x7 => [(4, iv x7), (3, iv x6), (2, iv x5), (0, rn w l0), (1, iv l1)]) (by decide) (fun _ => rfl) (fun x7 => ?_)
  refine zv_goto (tgt := 16) dX10_tried_65 (by decide) ?_
  exact zv_sub (L' := [(2, iv x5), (3, iv x6), (4, iv x7), (0, rn w l0), (1, iv l1)]) [2, 1, 0, 3, 4] rfl (zv_exit (fun h => h))
theorem c_X10_tried (l : Launch) {w : zW} (hw : zWk w)  (p0 : Nat) (p1 : Int) (M0 : zM) (hp0 : ztag w.1 p0 = 11) : zCn l yX10_tried cX10_tried 5 (some .int) (1) 1 w [rn w p0, iv p1] M0 ((f_X10_tried w.1 p0 p1 M0).map fun v => (M0, v)) := by
  have hT := hw.1
  refine zCn_ofP (own := RX10) (by decide) rfl hw (Nat.le_of_ble_eq_true rfl) [(0, rn w p0), (1, iv p1)] rfl ?_
  intro κ hl
  subst hl
  unfold f_X10_tried
  refine zv_iload_n dX10_tried_0 1 rfl ?_
  refine zv_pc (zv_callSi [iv p1] (c_X10_isPart κ.2.1 hw p1 M0 ) zmd_X10_isPart zwT_X10_isPart zwM_RX10_200 rfl (by decide) rfl (Nat.le_of_ble_eq_true rfl) dX10_tried_1 (fun mh2 v1 h2 => ?_))
  obtain rfl := zpuE h2
  refine zv_if_ne (tgt := 9) dX10_tried_4 (by decide) ?_ ?_
  · refine zv_iconst (z := 0) dX10_tried_9 ?_
    refine zv_istore_np (L' := [(2, iv 0), (0, rn w p0), (1, iv p1)]) (by rfl) dX10_tried_10 (by decide) rfl ?_
    refine zv_iconst (z := 0) dX10_tried_11 ?_
    refine zv_istore_np (L' := [(3, iv 0), (2, iv 0), (0, rn w p0), (1, iv p1)]) (by rfl) dX10_tried_12 (by decide) rfl ?_
    refine zv_iconst (z := 0) dX10_tried_13 ?_
    refine zv_istore_p (L' := [(4, iv 0), (3, iv 0), (2, iv 0), (0, rn w p0), (1, iv p1)]) dX10_tried_14 (by decide) rfl ?_
    refine zv_join2 68 (fun x8 x9 => [(0, rn w p0), (1, iv p1), (2, iv x8), (3, iv x9)]) (fun x8 x9 => []) (fun x8 x9 => M0) (zv_sub (L' := [(2, iv 0), (3, iv 0), (4, iv 0), (0, rn w p0), (1, iv p1)]) [2, 1, 0, 3, 4] rfl (vl_X10_tried_16 hw p0 p1 hp0 M0 _ (fun _ _ h => h) 0 0 0)) (fun x8 x9 => ?_)
    refine zv_iload_n dX10_tried_68 1 rfl ?_
    refine zv_if_ne (tgt := 76) dX10_tried_69 (by decide) ?_ ?_
    · refine zv_iload_n dX10_tried_76 3 rfl ?_
      refine zv_rload_n dX10_tried_77 0 rfl ?_
      refine zg_RX10_19 dX10_tried_78 hp0 ?_
      refine zg_RX10_129 dX10_tried_81 (zta_10_1 hT hp0) ?_
      refine zv_pc (zv_callSi [iv x9, iv (M0 (zfr w.1 p0 1) 16)] (c_X10_offTogether κ.2.1 hw x9 (M0 (zfr w.1 p0 1) 16) M0 ) zmd_X10_offTogether zwT_X10_offTogether zwM_RX10_296 rfl (by decide) rfl (Nat.le_of_ble_eq_true rfl) dX10_tried_84 (fun mh11 v10 h11 => ?_))
      obtain rfl := zpuE h11
      exact zv_ret (fun h => h) (zv_iret dX10_tried_87)
    refine zv_iload_n dX10_tried_72 2 rfl ?_
    refine zv_goto (tgt := 87) dX10_tried_73 (by decide) ?_
    exact zv_ret (fun h => h) (zv_iret dX10_tried_87)
  refine zv_iconst (z := (-1)) dX10_tried_7 ?_
  exact zv_ret (fun h => h) (zv_iret dX10_tried_8)
def fb_X8_countKinds_10 (k : zK)  (l0 : Nat) (y1 : Int) (M0 : zM) : Option ((Int × zM) ⊕ (zM)) :=
  zbr y1 256 (256 ≤ y1) (some (.inr M0)) (zgd (0 ≤ y1 ∧ y1 < 256) (zbr (M0 (zfr k l0 0) y1.toNat) 0 (M0 (zfr k l0 0) y1.toNat = 0) (zlt (y1 + 1) (fun x2 => some (.inl (x2, M0)))) (zb1 (f_X8_kindOf k l0 y1 M0) (fun v3 => zgd (0 ≤ v3 ∧ v3 < 16) (zgd (0 ≤ v3 ∧ v3 < 16) (zlt (zst M0 (zfr k l0 5) v3.toNat ((M0 (zfr k l0 5) v3.toNat) + 1)) (fun M5 => zlt (y1 + 1) (fun x6 => some (.inl (x6, M5))))))))))
def f_X8_countKinds (k : zK)  (p0 : Nat) (M0 : zM) : Option (zM × Int) :=
  zb1 (f_J7_fill_53178 k (zfr k p0 5) 0 M0) (fun M1 => zb1 (zw2 (fb_X8_countKinds_10 k p0) zfu 0 M1) (fun M7 => some (M7, ((zfr k p0 5) : Int))))
theorem vl_X8_countKinds_10 {κ : zC} {w : zW} (hw : zWk w)  (l0 : Nat) (g0 : ztag w.1 l0 = 9)  (E : (zM) → Prop) (hX : ∀  (M1 : zM), E M1 → zB cX8_countKinds RX8 2 (some (.array .int)) κ w (0, 0, 2) 46 [(0, rn w l0)] [] M1)  (y1 : Int) (M0 : zM) :
    zV cX8_countKinds RX8 2 (some (.array .int)) κ w (0, 0, 2) 10 [(1, iv y1), (0, rn w l0)] [] M0 (zw2 (fb_X8_countKinds_10 w.1 l0) zfu y1 M0) E := by
  have hT := hw.1
  refine zv_loop2 (fun y1 M0 => [(1, iv y1), (0, rn w l0)]) (fun y1 M0 => M0) (fun y1 M0 => ?_) y1 M0
  unfold fb_X8_countKinds_10
  refine zv_iload_n dX8_countKinds_10 0 rfl ?_
  refine zv_sipush (z := 256) dX8_countKinds_11 (by decide) ?_
  refine zv_icmp_ge (tgt := 46) dX8_countKinds_14 (by decide) ?_ ?_
  · exact zv_sub (L' := [(0, rn w l0)]) [1] rfl (zv_exit (fun h => hX _ h))
  refine zv_rload_n dX8_countKinds_17 1 rfl ?_
  refine zg_RX8_9 dX8_countKinds_18 g0 ?_
  refine zv_iload_n dX8_countKinds_21 0 rfl ?_
  refine zv_zald dX8_countKinds_22 (zta_8_0 hT g0) (ztl_8_0 hT g0) (by decide) ?_
  refine zv_if_eq (tgt := 40) dX8_countKinds_23 (by decide) ?_ ?_
  · refine zv_iinc dX8_countKinds_40 0 rfl (fun x2 => [(1, iv x2), (0, rn w l0)]) (by decide) (fun _ => rfl) (fun x2 => ?_)
    refine zv_goto (tgt := 10) dX8_countKinds_43 (by decide) ?_
    exact zv_sub (L' := [(1, iv x2), (0, rn w l0)]) [0, 1] rfl (zv_exit (fun h => h))
  refine zv_rload_n dX8_countKinds_26 1 rfl ?_
  refine zg_RX8_32 dX8_countKinds_27 g0 ?_
  refine zv_rload_n dX8_countKinds_30 1 rfl ?_
  refine zv_iload_n dX8_countKinds_31 0 rfl ?_
  refine zv_pc (zv_callVi [iv y1] (c_X8_kindOf κ.2.1 hw l0 y1 M0 g0) zmd_X8_kindOf zwI_X8_kindOf zwS_X8_kindOf zwM_RX8_66 zcd_8 g0 rfl (by decide) rfl (Nat.le_of_ble_eq_true rfl) dX8_countKinds_32 (fun mh4 v3 h4 => ?_))
  obtain rfl := zpuE h4
  refine zv_dup2 dX8_countKinds_35 rfl rfl ?_
  refine zv_iald dX8_countKinds_36 (zta_8_5 hT g0) (ztl_8_5 hT g0) (by decide) ?_
  refine zv_iconst (z := 1) dX8_countKinds_37 ?_
  refine zv_iadd dX8_countKinds_38 ?_
  refine zv_iast dX8_countKinds_39 (zta_8_5 hT g0) (ztl_8_5 hT g0) (by decide) (fun M5 => ?_)
  refine zv_iinc dX8_countKinds_40 0 rfl (fun x6 => [(1, iv x6), (0, rn w l0)]) (by decide) (fun _ => rfl) (fun x6 => ?_)
  refine zv_goto (tgt := 10) dX8_countKinds_43 (by decide) ?_
  exact zv_sub (L' := [(1, iv x6), (0, rn w l0)]) [0, 1] rfl (zv_exit (fun h => h))
theorem c_X8_countKinds (l : Launch) {w : zW} (hw : zWk w)  (p0 : Nat) (M0 : zM) (hp0 : ztag w.1 p0 = 9) : zCn l yX8_countKinds cX8_countKinds 2 (some (.array .int)) (2) 3 w [rn w p0] M0 (f_X8_countKinds w.1 p0 M0) := by
  have hT := hw.1
  refine zCn_of (own := RX8) (by decide) rfl hw (Nat.le_of_ble_eq_true rfl) [(0, rn w p0)] rfl ?_
  intro κ hl
  subst hl
  unfold f_X8_countKinds
  refine zv_rload_n dX8_countKinds_0 0 rfl ?_
  refine zg_RX8_32 dX8_countKinds_1 hp0 ?_
  refine zv_iconst (z := 0) dX8_countKinds_4 ?_
  refine zv_vc (zv_callSv [rn w (zfr w.1 p0 5), iv 0] (c_J7_fill_53178 κ.2.1 hw (zfr w.1 p0 5) 0 M0 (zta_8_5 hT hp0) (ztl_8_5 hT hp0)) zmd_J7_fill_53178 zwT_J7_fill_53178 zwM_RX8_60 rfl (by decide) rfl (Nat.le_of_ble_eq_true rfl) dX8_countKinds_5 (fun M1 _ _ => ?_))
  refine zv_iconst (z := 0) dX8_countKinds_8 ?_
  refine zv_istore_np (L' := [(1, iv 0), (0, rn w p0)]) (by rfl) dX8_countKinds_9 (by decide) rfl ?_
  refine zv_join1 46 (fun M7 => [(0, rn w p0)]) (fun M7 => []) (fun M7 => M7) (zv_sub (L' := [(1, iv 0), (0, rn w p0)]) [0, 1] rfl (vl_X8_countKinds_10 hw p0 hp0 _ (fun _ h => h) 0 M1)) (fun M7 => ?_)
  refine zv_rload_n dX8_countKinds_46 0 rfl ?_
  refine zg_RX8_32 dX8_countKinds_47 hp0 ?_
  exact zv_ret (fun h => h) (zv_rret (by first | exact Or.inl ⟨_, rfl⟩ | exact Or.inr ⟨_, rfl⟩) dX8_countKinds_50)
def fb_X10_unlike_33 (k : zK)  (l0 : Nat) (l2 : Nat) (M0 : zM) (y3 : Int) (y4 : Int) : Option ((Int × Int) ⊕ (Int)) :=
  zbr y4 16 (16 ≤ y4) (some (.inr y3)) (zgd (0 ≤ y4 ∧ y4 < 16) (zlt (y3 + (M0 l2 y4.toNat)) (fun x9 => zlt (y4 + 1) (fun x10 => some (.inl (x9, x10))))))
def fb_X10_unlike_65 (k : zK)  (l0 : Nat) (l2 : Nat) (l3 : Int) (M0 : zM) (y4 : Int) (y5 : Int) : Option ((Int × Int) ⊕ (Int)) :=
  zbr y5 16 (16 ≤ y5) (some (.inr y4)) (zgd (0 ≤ y5 ∧ y5 < 16) (zgd ((0 ≤ 1000 * (M0 l2 y5.toNat) ∧ 1000 * (M0 l2 y5.toNat) ≤ 2147483647) ∧ 0 < l3 ∧ l3 ≤ 2147483647) (zlt ((1000 * (M0 l2 y5.toNat)) / l3) (fun x12 => zgd (0 ≤ y5 ∧ y5 < 16) (zgd ((0 ≤ 1000 * (M0 (zfr k (zfr k l0 1) 4) y5.toNat) ∧ 1000 * (M0 (zfr k (zfr k l0 1) 4) y5.toNat) ≤ 2147483647) ∧ 0 < M0 (zfr k l0 1) 16 ∧ M0 (zfr k l0 1) 16 ≤ 2147483647) (zlt ((1000 * (M0 (zfr k (zfr k l0 1) 4) y5.toNat)) / (M0 (zfr k l0 1) 16)) (fun x13 => zgd (zr (x12 - x13) ∧ -2147483647 ≤ x12 - x13) (zlt (y4 + (zabs (x12 - x13))) (fun x14 => zlt (y5 + 1) (fun x15 => some (.inl (x14, x15))))))))))))
def f_X10_unlike (k : zK)  (p0 : Nat) (p1 : Int) (M0 : zM) : Option (zM × Int) :=
  zb1 (f_X10_isAge k p1 M0) (fun v1 => zbr v1 0 (v1 = 0) (some (M0, (-1))) (zbr (M0 (zfr k p0 1) 16) 0 (¬ M0 (zfr k p0 1) 16 = 0) (zbd (f_X10_viewAt k p0 p1 M0) (fun M4 v3 => zgd (ztag k v3.toNat = 9) (zbd (f_X8_countKinds k (v3.toNat) M4) (fun M7 v6 => zgd (ztag k v6.toNat = 20 ∧ ((zlen k v6.toNat : Nat) : Int) = 16) (zb1 (zw2 (fb_X10_unlike_33 k p0 (v6.toNat) M7) zfu 0 0) (fun x11 => zbr x11 0 (¬ x11 = 0) (zb1 (zw2 (fb_X10_unlike_65 k p0 (v6.toNat) x11 M7) zfu 0 0) (fun x16 => some (M7, x16))) (some (M7, (-1))))))))) (some (M0, (-1)))))
theorem vl_X10_unlike_33 {κ : zC} {w : zW} (hw : zWk w)  (l0 : Nat) (l2 : Nat) (g0 : ztag w.1 l0 = 11) (g2 : ztag w.1 l2 = 20) (gl2 : ((zlen w.1 l2 : Nat) : Int) = 16) (M0 : zM) (E : (Int) → Prop) (hX : ∀ (u3 : Int), E u3 → zB cX10_unlike RX10 8 (some .int) κ w (0, 0, 6) 53 [(0, rn w l0), (2, rn w l2), (3, iv u3)] [] M0)  (y3 : Int) (y4 : Int) :
    zV cX10_unlike RX10 8 (some .int) κ w (0, 0, 6) 33 [(3, iv y3), (4, iv y4), (0, rn w l0), (2, rn w l2)] [] M0 (zw2 (fb_X10_unlike_33 w.1 l0 l2 M0) zfu y3 y4) E := by
  have hT := hw.1
  refine zv_loop2 (fun y3 y4 => [(3, iv y3), (4, iv y4), (0, rn w l0), (2, rn w l2)]) (fun y3 y4 => M0) (fun y3 y4 => ?_) y3 y4
  unfold fb_X10_unlike_33
  refine zv_iload dX10_unlike_33 1 rfl ?_
  refine zv_bipush (z := 16) dX10_unlike_35 (by decide) ?_
  refine zv_icmp_ge (tgt := 53) dX10_unlike_37 (by decide) ?_ ?_
  · exact zv_sub (L' := [(0, rn w l0), (2, rn w l2), (3, iv y3)]) [2, 3, 0] rfl (zv_exit (fun h => hX _ h))
  refine zv_iload_n dX10_unlike_40 0 rfl ?_
  refine zv_rload_n dX10_unlike_41 3 rfl ?_
  refine zv_iload dX10_unlike_42 1 rfl ?_
  refine zv_iald dX10_unlike_44 g2 gl2 (by decide) ?_
  refine zv_iadd dX10_unlike_45 ?_
  refine zv_istore_n (i := 3) (by rfl) dX10_unlike_46 (fun x9 => [(3, iv x9), (4, iv y4), (0, rn w l0), (2, rn w l2)]) (by decide) (fun _ => rfl) (fun x9 => ?_)
  refine zv_iinc dX10_unlike_47 1 rfl (fun x10 => [(4, iv x10), (3, iv x9), (0, rn w l0), (2, rn w l2)]) (by decide) (fun _ => rfl) (fun x10 => ?_)
  refine zv_goto (tgt := 33) dX10_unlike_50 (by decide) ?_
  exact zv_sub (L' := [(3, iv x9), (4, iv x10), (0, rn w l0), (2, rn w l2)]) [1, 0, 2, 3] rfl (zv_exit (fun h => h))
theorem vl_X10_unlike_65 {κ : zC} {w : zW} (hw : zWk w)  (l0 : Nat) (l2 : Nat) (l3 : Int) (g0 : ztag w.1 l0 = 11) (g2 : ztag w.1 l2 = 20) (gl2 : ((zlen w.1 l2 : Nat) : Int) = 16) (M0 : zM) (E : (Int) → Prop) (hX : ∀ (u4 : Int), E u4 → zB cX10_unlike RX10 8 (some .int) κ w (0, 0, 6) 127 [(4, iv u4)] [] M0)  (y4 : Int) (y5 : Int) :
    zV cX10_unlike RX10 8 (some .int) κ w (0, 0, 6) 65 [(4, iv y4), (5, iv y5), (0, rn w l0), (2, rn w l2), (3, iv l3)] [] M0 (zw2 (fb_X10_unlike_65 w.1 l0 l2 l3 M0) zfu y4 y5) E := by
  have hT := hw.1
  refine zv_loop2 (fun y4 y5 => [(4, iv y4), (5, iv y5), (0, rn w l0), (2, rn w l2), (3, iv l3)]) (fun y4 y5 => M0) (fun y4 y5 => ?_) y4 y5
  unfold fb_X10_unlike_65
  refine zv_iload dX10_unlike_65 1 rfl ?_
  refine zv_bipush (z := 16) dX10_unlike_67 (by decide) ?_
  refine zv_icmp_ge (tgt := 127) dX10_unlike_69 (by decide) ?_ ?_
  · exact zv_sub (L' := [(4, iv y4)]) [0] rfl (zv_exit (fun h => hX _ h))
  refine zv_sipush (z := 1000) dX10_unlike_72 (by decide) ?_
  refine zv_rload_n dX10_unlike_75 3 rfl ?_
  refine zv_iload dX10_unlike_76 1 rfl ?_
  refine zv_iald dX10_unlike_78 g2 gl2 (by decide) ?_
  refine zv_imul dX10_unlike_79 ?_
  refine zv_iload_n dX10_unlike_80 4 rfl ?_
  refine zv_idiv dX10_unlike_81 ?_
  refine zv_istore dX10_unlike_82 (fun x12 => [(6, iv x12), (4, iv y4), (5, iv y5), (0, rn w l0), (2, rn w l2), (3, iv l3)]) (by decide) (fun _ => rfl) (fun x12 => ?_)
  refine zv_sipush (z := 1000) dX10_unlike_84 (by decide) ?_
  refine zv_rload_n dX10_unlike_87 3 rfl ?_
  refine zg_RX10_19 dX10_unlike_88 g0 ?_
  refine zg_RX10_132 dX10_unlike_91 (zta_10_1 hT g0) ?_
  refine zv_iload dX10_unlike_94 2 rfl ?_
  refine zv_iald dX10_unlike_96 (zta_7_4 hT (zta_10_1 hT g0)) (ztl_7_4 hT (zta_10_1 hT g0)) (by decide) ?_
  refine zv_imul dX10_unlike_97 ?_
  refine zv_rload_n dX10_unlike_98 3 rfl ?_
  refine zg_RX10_19 dX10_unlike_99 g0 ?_
  refine zg_RX10_129 dX10_unlike_102 (zta_10_1 hT g0) ?_
  refine zv_idiv dX10_unlike_105 ?_
  refine zv_istore dX10_unlike_106 (fun x13 => [(7, iv x13), (6, iv x12), (4, iv y4), (5, iv y5), (0, rn w l0), (2, rn w l2), (3, iv l3)]) (by decide) (fun _ => rfl) (fun x13 => ?_)
  refine zv_iload dX10_unlike_108 2 rfl ?_
  refine zv_iload dX10_unlike_110 1 rfl ?_
  refine zv_iload dX10_unlike_112 0 rfl ?_
  refine zv_isub dX10_unlike_114 ?_
  refine zv_mabs zwM_RX10_324 (by decide) (Nat.le_of_ble_eq_true rfl) dX10_unlike_115 ?_
  refine zv_iadd dX10_unlike_118 ?_
  refine zv_istore dX10_unlike_119 (fun x14 => [(4, iv x14), (7, iv x13), (6, iv x12), (5, iv y5), (0, rn w l0), (2, rn w l2), (3, iv l3)]) (by decide) (fun _ => rfl) (fun x14 => ?_)
  refine zv_iinc dX10_unlike_121 3 rfl (fun x15 => [(5, iv x15), (4, iv x14), (7, iv x13), (6, iv x12), (0, rn w l0), (2, rn w l2), (3, iv l3)]) (by decide) (fun _ => rfl) (fun x15 => ?_)
  refine zv_goto (tgt := 65) dX10_unlike_124 (by decide) ?_
  exact zv_sub (L' := [(4, iv x14), (5, iv x15), (0, rn w l0), (2, rn w l2), (3, iv l3)]) [1, 0, 4, 5, 6] rfl (zv_exit (fun h => h))
theorem c_X10_unlike (l : Launch) {w : zW} (hw : zWk w)  (p0 : Nat) (p1 : Int) (M0 : zM) (hp0 : ztag w.1 p0 = 11) : zCn l yX10_unlike cX10_unlike 8 (some .int) (6) 1 w [rn w p0, iv p1] M0 (f_X10_unlike w.1 p0 p1 M0) := by
  have hT := hw.1
  refine zCn_of (own := RX10) (by decide) rfl hw (Nat.le_of_ble_eq_true rfl) [(0, rn w p0), (1, iv p1)] rfl ?_
  intro κ hl
  subst hl
  unfold f_X10_unlike
  refine zv_iload_n dX10_unlike_0 1 rfl ?_
  refine zv_pc (zv_callSi [iv p1] (c_X10_isAge κ.2.1 hw p1 M0 ) zmd_X10_isAge zwT_X10_isAge zwM_RX10_197 rfl (by decide) rfl (Nat.le_of_ble_eq_true rfl) dX10_unlike_1 (fun mh2 v1 h2 => ?_))
  obtain rfl := zpuE h2
  refine zv_if_eq (tgt := 17) dX10_unlike_4 (by decide) ?_ ?_
  · refine zv_iconst (z := (-1)) dX10_unlike_17 ?_
    exact zv_ret (fun h => h) (zv_iret dX10_unlike_18)
  refine zv_rload_n dX10_unlike_7 0 rfl ?_
  refine zg_RX10_19 dX10_unlike_8 hp0 ?_
  refine zg_RX10_129 dX10_unlike_11 (zta_10_1 hT hp0) ?_
  refine zv_if_ne (tgt := 19) dX10_unlike_14 (by decide) ?_ ?_
  · refine zv_rload_n dX10_unlike_19 0 rfl ?_
    refine zv_iload_n dX10_unlike_20 1 rfl ?_
    refine (zv_callVr [iv p1] (c_X10_viewAt κ.2.1 hw p0 p1 M0 hp0) zmd_X10_viewAt zwI_X10_viewAt zwS_X10_viewAt zwM_RX10_236 zcd_10 hp0 rfl (by decide) rfl (Nat.le_of_ble_eq_true rfl) dX10_unlike_21 (fun M4 v3 _ => ?_))
    refine zv_gd (fun h5 => ?_)
    refine (zv_callVr [] (c_X8_countKinds κ.2.1 hw (v3.toNat) M4 h5) zmd_X8_countKinds zwI_X8_countKinds zwS_X8_countKinds zwM_RX10_320 zcd_8 h5 rfl (by decide) rfl (Nat.le_of_ble_eq_true rfl) dX10_unlike_24 (fun M7 v6 _ => ?_))
    refine zv_gd (fun h8 => ?_)
    refine zv_rstore_np (L' := [(2, rn w (v6.toNat)), (0, rn w p0), (1, iv p1)]) (by rfl) dX10_unlike_27 (by decide) rfl ?_
    refine zv_iconst (z := 0) dX10_unlike_28 ?_
    refine zv_istore_np (L' := [(3, iv 0), (2, rn w (v6.toNat)), (0, rn w p0), (1, iv p1)]) (by rfl) dX10_unlike_29 (by decide) rfl ?_
    refine zv_iconst (z := 0) dX10_unlike_30 ?_
    refine zv_istore_p (L' := [(4, iv 0), (3, iv 0), (2, rn w (v6.toNat)), (0, rn w p0), (1, iv p1)]) dX10_unlike_31 (by decide) rfl ?_
    refine zv_join1 53 (fun x11 => [(0, rn w p0), (2, rn w (v6.toNat)), (3, iv x11)]) (fun x11 => []) (fun x11 => M7) (zv_sub (L' := [(3, iv 0), (4, iv 0), (0, rn w p0), (2, rn w (v6.toNat))]) [1, 0, 3, 2] rfl (vl_X10_unlike_33 hw p0 (v6.toNat) hp0 h8.1 h8.2 M7 _ (fun _ h => h) 0 0)) (fun x11 => ?_)
    refine zv_iload_n dX10_unlike_53 2 rfl ?_
    refine zv_if_ne (tgt := 59) dX10_unlike_54 (by decide) ?_ ?_
    · refine zv_iconst (z := 0) dX10_unlike_59 ?_
      refine zv_istore_p (L' := [(4, iv 0), (0, rn w p0), (2, rn w (v6.toNat)), (3, iv x11)]) dX10_unlike_60 (by decide) rfl ?_
      refine zv_iconst (z := 0) dX10_unlike_62 ?_
      refine zv_istore_p (L' := [(5, iv 0), (4, iv 0), (0, rn w p0), (2, rn w (v6.toNat)), (3, iv x11)]) dX10_unlike_63 (by decide) rfl ?_
      refine zv_join1 127 (fun x16 => [(4, iv x16)]) (fun x16 => []) (fun x16 => M7) (zv_sub (L' := [(4, iv 0), (5, iv 0), (0, rn w p0), (2, rn w (v6.toNat)), (3, iv x11)]) [1, 0, 2, 3, 4] rfl (vl_X10_unlike_65 hw p0 (v6.toNat) x11 hp0 h8.1 h8.2 M7 _ (fun _ h => h) 0 0)) (fun x16 => ?_)
      refine zv_iload dX10_unlike_127 0 rfl ?_
      exact zv_ret (fun h => h) (zv_iret dX10_unlike_129)
    refine zv_iconst (z := (-1)) dX10_unlike_57 ?_
    exact zv_ret (fun h => h) (zv_iret dX10_unlike_58)
  refine zv_iconst (z := (-1)) dX10_unlike_17 ?_
  exact zv_ret (fun h => h) (zv_iret dX10_unlike_18)

def fb_X4_before_5 (k : zK)  (l0 : Nat) (l1 : Int) (l2 : Int) (M0 : zM) (y3 : Int) (y4 : Int) : Option ((Int × Int) ⊕ (Int)) :=
  zbr y4 l2 (l2 ≤ y4) (some (.inr y3)) (zb1 (f_X4_of k l0 l1 y4 M0) (fun v1 => zlt (y3 + v1) (fun x3 => zlt (y4 + 1) (fun x4 => some (.inl (x3, x4))))))
def f_X4_before (k : zK)  (p0 : Nat) (p1 : Int) (p2 : Int) (M0 : zM) : Option Int :=
  zb1 (zw2 (fb_X4_before_5 k p0 p1 p2 M0) zfu 0 0) (fun x5 => some x5)
theorem vl_X4_before_5 {κ : zC} {w : zW} (hw : zWk w)  (l0 : Nat) (l1 : Int) (l2 : Int) (g0 : ztag w.1 l0 = 5) (M0 : zM) (E : (Int) → Prop) (hX : ∀ (u3 : Int), E u3 → zB cX4_before RX4 5 (some .int) κ w (0, 0, 1) 27 [(3, iv u3)] [] M0)  (y3 : Int) (y4 : Int) :
    zV cX4_before RX4 5 (some .int) κ w (0, 0, 1) 5 [(3, iv y3), (4, iv y4), (0, rn w l0), (1, iv l1), (2, iv l2)] [] M0 (zw2 (fb_X4_before_5 w.1 l0 l1 l2 M0) zfu y3 y4) E := by
  have hT := hw.1
  refine zv_loop2 (fun y3 y4 => [(3, iv y3), (4, iv y4), (0, rn w l0), (1, iv l1), (2, iv l2)]) (fun y3 y4 => M0) (fun y3 y4 => ?_) y3 y4
  unfold fb_X4_before_5
  refine zv_iload dX4_before_5 1 rfl ?_
  refine zv_iload_n dX4_before_7 4 rfl ?_
  refine zv_icmp_ge (tgt := 27) dX4_before_8 (by decide) ?_ ?_
  · exact zv_sub (L' := [(3, iv y3)]) [0] rfl (zv_exit (fun h => hX _ h))
  refine zv_iload_n dX4_before_11 0 rfl ?_
  refine zv_rload_n dX4_before_12 2 rfl ?_
  refine zv_iload_n dX4_before_13 3 rfl ?_
  refine zv_iload dX4_before_14 1 rfl ?_
  refine zv_pc (zv_callVi [iv l1, iv y4] (c_X4_of κ.2.1 hw l0 l1 y4 M0 g0) zmd_X4_of zwI_X4_of zwS_X4_of zwM_RX4_44 zcd_4 g0 rfl (by decide) rfl (Nat.le_of_ble_eq_true rfl) dX4_before_16 (fun mh2 v1 h2 => ?_))
  obtain rfl := zpuE h2
  refine zv_iadd dX4_before_19 ?_
  refine zv_istore_n (i := 3) (by rfl) dX4_before_20 (fun x3 => [(3, iv x3), (4, iv y4), (0, rn w l0), (1, iv l1), (2, iv l2)]) (by decide) (fun _ => rfl) (fun x3 => ?_)
  refine zv_iinc dX4_before_21 1 rfl (fun x4 => [(4, iv x4), (3, iv x3), (0, rn w l0), (1, iv l1), (2, iv l2)]) (by decide) (fun _ => rfl) (fun x4 => ?_)
  refine zv_goto (tgt := 5) dX4_before_24 (by decide) ?_
  exact zv_sub (L' := [(3, iv x3), (4, iv x4), (0, rn w l0), (1, iv l1), (2, iv l2)]) [1, 0, 2, 3, 4] rfl (zv_exit (fun h => h))
theorem c_X4_before (l : Launch) {w : zW} (hw : zWk w)  (p0 : Nat) (p1 : Int) (p2 : Int) (M0 : zM) (hp0 : ztag w.1 p0 = 5) : zCn l yX4_before cX4_before 5 (some .int) (1) 1 w [rn w p0, iv p1, iv p2] M0 ((f_X4_before w.1 p0 p1 p2 M0).map fun v => (M0, v)) := by
  have hT := hw.1
  refine zCn_ofP (own := RX4) (by decide) rfl hw (Nat.le_of_ble_eq_true rfl) [(0, rn w p0), (1, iv p1), (2, iv p2)] rfl ?_
  intro κ hl
  subst hl
  unfold f_X4_before
  refine zv_iconst (z := 0) dX4_before_0 ?_
  refine zv_istore_np (L' := [(3, iv 0), (0, rn w p0), (1, iv p1), (2, iv p2)]) (by rfl) dX4_before_1 (by decide) rfl ?_
  refine zv_iconst (z := 0) dX4_before_2 ?_
  refine zv_istore_p (L' := [(4, iv 0), (3, iv 0), (0, rn w p0), (1, iv p1), (2, iv p2)]) dX4_before_3 (by decide) rfl ?_
  refine zv_join1 27 (fun x5 => [(3, iv x5)]) (fun x5 => []) (fun x5 => M0) (zv_sub (L' := [(3, iv 0), (4, iv 0), (0, rn w p0), (1, iv p1), (2, iv p2)]) [1, 0, 2, 3, 4] rfl (vl_X4_before_5 hw p0 p1 p2 hp0 M0 _ (fun _ h => h) 0 0)) (fun x5 => ?_)
  refine zv_iload_n dX4_before_27 0 rfl ?_
  exact zv_ret (fun h => h) (zv_iret dX4_before_28)

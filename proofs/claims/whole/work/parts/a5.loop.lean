/-! the law's switch and loop -/
theorem zv_sln {τ : Type} {bs : ByteArray} {own : String} {nL : Nat} {ret : Option FieldType} {κ : zC} {w : zW} {n : Nat × Nat × Nat} {pc : Nat} {L : List (Nat × Value)} {S : List Value} {M : zM} {o : Option τ} {E : τ → Prop} {b Ln : Nat} {xs : Nat → Int32} (hX : zSc κ b Ln xs) (d : decode bs pc = .ok (.arraylength, 1)) (k : zV bs own nL ret κ w n (pc + 1) L (iv (Ln : Int) :: S) M o E) : zV bs own nL ret κ w n pc L (Value.ref b :: S) M o E := by
  intro t ho hE
  have k := k t ho hE
  obtain ⟨p, l, e, R, st, m, args, below, meth, cd, A, Qc, mc, ms⟩ := κ
  intro X H locs ls hH hS hl
  obtain ⟨h1, h2, h3, h4⟩ := hX
  refine va_slen X.1 X.2.1 h1 h2 h3 hS d ?_
  have K := k X H locs ls hH hS hl
  unfold iv at K
  rw [show Int32.ofInt (Ln : Int) = Int32.ofNat Ln from rfl] at K
  exact K
theorem zi_rg (x : Int32) : zr x.toInt := ⟨Int32.le_toInt x, by have := Int32.toInt_lt x; omega⟩
theorem zo_63 {a : Int} : 0 ≤ zo_and a 63 ∧ zo_and a 63 ≤ 63 := by
  have e : zo_and a 63 = (((Int32.ofInt a &&& Int32.ofInt 63).toBitVec.toNat : Nat) : Int) := by
    refine wi_int rfl ?_
    rw [Int32.toBitVec_and, BitVec.toNat_and]
    exact Nat.lt_of_le_of_lt Nat.and_le_right (by decide)
  have h : (Int32.ofInt a &&& Int32.ofInt 63).toBitVec.toNat ≤ 63 := by
    rw [Int32.toBitVec_and, BitVec.toNat_and]
    exact Nat.le_trans Nat.and_le_right (by decide)
  rw [e]
  omega
theorem zB_wid {bs : ByteArray} {own : String} {nL : Nat} {ret : Option FieldType} {κ : zC} {w : zW} {n n' : Nat × Nat × Nat} {pc : Nat} {L : List (Nat × Value)} {S : List Value} {M : zM} (h1 : n.1 ≤ n'.1) (h2 : n.2.1 ≤ n'.2.1) (h3 : n'.2.2 = n.2.2) (h4 : n'.1 ≤ κ.2.2.2.1.cells) (h5 : n'.2.1 ≤ κ.2.2.2.1.slots) (k : zB bs own nL ret κ w n' pc L S M) : zB bs own nL ret κ w n pc L S M := by
  intro Y
  have k := k (zCx_n Y h4 h5 h3)
  obtain ⟨p, l, e, R, st, m, args, below, meth, cd, A, Qc, mc, ms⟩ := κ
  intro H locs ls hH hS hl
  exact W.widen h1 h2 (k H locs ls hH hS hl)
/-- from a case's end to the loop's head -/
theorem zB_next {κ : zC} {w : zW} {n : Nat × Nat × Nat} {b : Nat} {i3 : Int} {M : zM} (k : zB cL_law RL 4 (some .boolean) κ w n 18 [(3, iv (i3 + 6)), (1, rn w 1), (2, rn w 76), (0, Value.ref b)] [] M) : zB cL_law RL 4 (some .boolean) κ w n 1700 [(3, iv i3), (1, rn w 1), (2, rn w 76), (0, Value.ref b)] [] M := by
  refine (zv_iinc (e := i3) (X := fun x => some x) (E := fun x => x = i3 + 6) dL_law_1700 0 rfl (fun x => [(3, iv x), (1, rn w 1), (2, rn w 76), (0, Value.ref b)]) (by decide) (fun _ => rfl) (fun x => ?_)) (i3 + 6) rfl rfl
  refine zv_goto (tgt := 18) dL_law_1703 (by decide) (zv_exit (fun h => ?_))
  rw [h]
  exact k
/-- one call -/
theorem zB_call {κ : zC} {w : zW} (hw : zWk w) {b Ln : Nat} {xs : Nat → Int32} (hX : zSc κ b Ln xs) {i L : Nat} {M : zM} {E : zE} (hk : w.1 = zKn i) (hI : zInv i L M E) {n0 n1 : Nat} (hroom : n0 + 16 ≤ κ.2.2.2.1.cells ∧ n1 + 1486 ≤ κ.2.2.2.1.slots) {i3 : Int} (hi : 0 ≤ i3 ∧ i3 + 6 ≤ (Ln : Int))
    (hE : ∀ w' i' L' M' E', w'.1 = zKn i' → zWk w' → zInv i' L' M' E' → zB cL_law RL 4 (some .boolean) κ w' (n0 + 16, n1 + 1486, 1000) 1700 [(3, iv i3), (1, rn w' 1), (2, rn w' 76), (0, Value.ref b)] [] M') : zB cL_law RL 4 (some .boolean) κ w (n0, n1, 1000) 27 [(3, iv i3), (1, rn w 1), (2, rn w 76), (0, Value.ref b)] [] M := by
  have hx1 : ztag w.1 1 = 11 := by rw [hk]; exact zt_1
  have hm1 : ztag w.1 76 = 12 := by rw [hk]; exact zt_76
  have hi3 : i ≤ 3 := hI.1.2.2.2.1.1
  have g0 : ∀ M', (∃ L' E', zInv i L' M' E') → zB cL_law RL 4 (some .boolean) κ w (n0, n1, 1000) 1700 [(3, iv i3), (1, rn w 1), (2, rn w 76), (0, Value.ref b)] [] M' := fun M' ⟨L', E', h⟩ => zB_wid (n' := (n0 + 16, n1 + 1486, 1000)) (Nat.le_add_right _ _) (Nat.le_add_right _ _) rfl hroom.1 hroom.2 (hE w i L' M' E' hk hw h)
  have g1 : ∀ M', (∃ L' E', zInv i L' M' E') → zB cL_law RL 4 (some .boolean) κ w (n0 + 1, n1 + 1, 1000) 1700 [(3, iv i3), (1, rn w 1), (2, rn w 76), (0, Value.ref b)] [] M' := fun M' ⟨L', E', h⟩ => zB_wid (n' := (n0 + 16, n1 + 1486, 1000)) (by show n0 + 1 ≤ n0 + 16; omega) (by show n1 + 1 ≤ n1 + 1486; omega) rfl hroom.1 hroom.2 (hE w i L' M' E' hk hw h)
  refine (zv_aload_n (o := some ()) (E := fun _ => True) dL_law_27 3 rfl ?_) () rfl trivial
  refine zv_iload_n dL_law_28 0 rfl ?_
  refine zv_sld (a := (xs i3.toNat).toInt) hX (by omega) rfl dL_law_29 ?_
  refine zv_bipush (z := 63) dL_law_30 (by decide) ?_
  refine zv_iand dL_law_32 ?_
  have hz := zo_63 (a := (xs i3.toNat).toInt)
  generalize zo_and (xs i3.toNat).toInt 63 = z at hz
  by_cases c0 : z = 0
  · obtain ⟨M4, hM4, h4⟩ := qL_0 hI (zi_rg (xs (i3 + 1).toNat)) (zi_rg (xs (i3 + 2).toNat)) (zi_rg (xs (i3 + 3).toNat))
    rw [← hk] at hM4
    exact zv_tin (tgt := 208) dL_law_33 c0 (by decide) (by decide) (by decide) rfl (by decide) (fun _ _ _ => vL_0 hw hX hx1 hm1 n0 n1 i3 hi _ _ _ rfl rfl rfl M (fun M' => ∃ L' E', zInv i L' M' E') g0 M4 hM4 h4)
  by_cases c1 : z = 1
  · obtain ⟨M4, hM4, h4⟩ := qL_1 hI (zi_rg (xs (i3 + 1).toNat)) (zi_rg (xs (i3 + 2).toNat)) (zi_rg (xs (i3 + 3).toNat)) (zi_rg (xs (i3 + 4).toNat)) (zi_rg (xs (i3 + 5).toNat))
    rw [← hk] at hM4
    exact zv_tin (tgt := 251) dL_law_33 c1 (by decide) (by decide) (by decide) rfl (by decide) (fun _ _ _ => vL_1 hw hX hx1 hm1 n0 n1 i3 hi _ _ _ _ _ rfl rfl rfl rfl rfl M (fun M' => ∃ L' E', zInv i L' M' E') g0 M4 hM4 h4)
  by_cases c2 : z = 2
  · obtain ⟨M4, hM4, h4⟩ := qL_2 hI (zi_rg (xs (i3 + 1).toNat))
    rw [← hk] at hM4
    exact zv_tin (tgt := 314) dL_law_33 c2 (by decide) (by decide) (by decide) rfl (by decide) (fun _ _ _ => vL_2 hw hX hx1 hm1 n0 n1 i3 hi _ rfl M (fun M' => ∃ L' E', zInv i L' M' E') g0 M4 hM4 h4)
  by_cases c3 : z = 3
  · obtain ⟨M4, hM4, h4⟩ := qL_3 hI 
    rw [← hk] at hM4
    exact zv_tin (tgt := 337) dL_law_33 c3 (by decide) (by decide) (by decide) rfl (by decide) (fun _ _ _ => vL_3 hw hX hx1 hm1 n0 n1 i3 hi  M (fun M' => ∃ L' E', zInv i L' M' E') g0 M4 hM4 h4)
  by_cases c4 : z = 4
  · obtain ⟨M4, hM4, h4⟩ := qL_4 hI (zi_rg (xs (i3 + 1).toNat)) (zi_rg (xs (i3 + 2).toNat))
    rw [← hk] at hM4
    exact zv_tin (tgt := 350) dL_law_33 c4 (by decide) (by decide) (by decide) rfl (by decide) (fun _ _ _ => vL_4 hw hX hx1 hm1 n0 n1 i3 hi _ _ rfl rfl M (fun M' => ∃ L' E', zInv i L' M' E') g0 M4 hM4 h4)
  by_cases c5 : z = 5
  · obtain ⟨M4, hM4, h4⟩ := qL_5 hI (zi_rg (xs (i3 + 1).toNat)) (zi_rg (xs (i3 + 2).toNat))
    rw [← hk] at hM4
    exact zv_tin (tgt := 383) dL_law_33 c5 (by decide) (by decide) (by decide) rfl (by decide) (fun _ _ _ => vL_5 hw hX hx1 hm1 n0 n1 i3 hi _ _ rfl rfl M (fun M' => ∃ L' E', zInv i L' M' E') g0 M4 hM4 h4)
  by_cases c6 : z = 6
  · obtain ⟨M4, hM4, h4⟩ := qL_6 hI (zi_rg (xs (i3 + 1).toNat)) (zi_rg (xs (i3 + 2).toNat)) (zi_rg (xs (i3 + 3).toNat))
    rw [← hk] at hM4
    exact zv_tin (tgt := 416) dL_law_33 c6 (by decide) (by decide) (by decide) rfl (by decide) (fun _ _ _ => vL_6 hw hX hx1 hm1 n0 n1 i3 hi _ _ _ rfl rfl rfl M (fun M' => ∃ L' E', zInv i L' M' E') g0 M4 hM4 h4)
  by_cases c7 : z = 7
  · obtain ⟨M4, hM4, h4⟩ := qL_7 hI (zi_rg (xs (i3 + 1).toNat))
    rw [← hk] at hM4
    exact zv_tin (tgt := 459) dL_law_33 c7 (by decide) (by decide) (by decide) rfl (by decide) (fun _ _ _ => vL_7 hw hX hx1 hm1 n0 n1 i3 hi _ rfl M (fun M' => ∃ L' E', zInv i L' M' E') g0 M4 hM4 h4)
  by_cases c8 : z = 8
  · obtain ⟨M4, hM4, h4⟩ := qL_8 hI (zi_rg (xs (i3 + 1).toNat)) (zi_rg (xs (i3 + 2).toNat)) (zi_rg (xs (i3 + 3).toNat))
    rw [← hk] at hM4
    exact zv_tin (tgt := 482) dL_law_33 c8 (by decide) (by decide) (by decide) rfl (by decide) (fun _ _ _ => vL_8 hw hX hx1 hm1 n0 n1 i3 hi _ _ _ rfl rfl rfl M (fun M' => ∃ L' E', zInv i L' M' E') g0 M4 hM4 h4)
  by_cases c9 : z = 9
  · obtain ⟨M4, hM4, h4⟩ := qL_9 hI (zi_rg (xs (i3 + 1).toNat)) (zi_rg (xs (i3 + 2).toNat)) (zi_rg (xs (i3 + 3).toNat)) (zi_rg (xs (i3 + 4).toNat))
    rw [← hk] at hM4
    exact zv_tin (tgt := 525) dL_law_33 c9 (by decide) (by decide) (by decide) rfl (by decide) (fun _ _ _ => vL_9 hw hX hx1 hm1 n0 n1 i3 hi _ _ _ _ rfl rfl rfl rfl M (fun M' => ∃ L' E', zInv i L' M' E') g0 M4 hM4 h4)
  by_cases c10 : z = 10
  · obtain ⟨M4, hM4, h4⟩ := qL_10 hI (zi_rg (xs (i3 + 1).toNat)) (zi_rg (xs (i3 + 2).toNat))
    rw [← hk] at hM4
    exact zv_tin (tgt := 579) dL_law_33 c10 (by decide) (by decide) (by decide) rfl (by decide) (fun _ _ _ => vL_10 hw hX hx1 hm1 n0 n1 i3 hi _ _ rfl rfl M (fun M' => ∃ L' E', zInv i L' M' E') g0 M4 hM4 h4)
  by_cases c11 : z = 11
  · obtain ⟨M4, hM4, h4⟩ := qL_11 hI (zi_rg (xs (i3 + 1).toNat)) (zi_rg (xs (i3 + 2).toNat))
    rw [← hk] at hM4
    exact zv_tin (tgt := 628) dL_law_33 c11 (by decide) (by decide) (by decide) rfl (by decide) (fun _ _ _ => vL_11 hw hX hx1 hm1 n0 n1 i3 hi _ _ rfl rfl M (fun M' => ∃ L' E', zInv i L' M' E') g0 M4 hM4 h4)
  by_cases c12 : z = 12
  · obtain ⟨M4, hM4, h4⟩ := qL_12 hI (zi_rg (xs (i3 + 1).toNat))
    rw [← hk] at hM4
    exact zv_tin (tgt := 661) dL_law_33 c12 (by decide) (by decide) (by decide) rfl (by decide) (fun _ _ _ => vL_12 hw hX hx1 hm1 n0 n1 i3 hi _ rfl M (fun M' => ∃ L' E', zInv i L' M' E') g0 M4 hM4 h4)
  by_cases c13 : z = 13
  · obtain ⟨M4, hM4, h4⟩ := qL_13 hI (zi_rg (xs (i3 + 1).toNat)) (zi_rg (xs (i3 + 2).toNat))
    rw [← hk] at hM4
    exact zv_tin (tgt := 684) dL_law_33 c13 (by decide) (by decide) (by decide) rfl (by decide) (fun _ _ _ => vL_13 hw hX hx1 hm1 n0 n1 i3 hi _ _ rfl rfl M (fun M' => ∃ L' E', zInv i L' M' E') g0 M4 hM4 h4)
  by_cases c14 : z = 14
  · obtain ⟨M4, hM4, h4⟩ := qL_14 hI (zi_rg (xs (i3 + 1).toNat)) (zi_rg (xs (i3 + 2).toNat)) (zi_rg (xs (i3 + 3).toNat))
    rw [← hk] at hM4
    exact zv_tin (tgt := 717) dL_law_33 c14 (by decide) (by decide) (by decide) rfl (by decide) (fun _ _ _ => vL_14 hw hX hx1 hm1 n0 n1 i3 hi _ _ _ rfl rfl rfl M (fun M' => ∃ L' E', zInv i L' M' E') g0 M4 hM4 h4)
  by_cases c15 : z = 15
  · obtain ⟨M4, hM4, h4⟩ := qL_15 hI (zi_rg (xs (i3 + 1).toNat)) (zi_rg (xs (i3 + 2).toNat)) (zi_rg (xs (i3 + 3).toNat)) (zi_rg (xs (i3 + 4).toNat))
    rw [← hk] at hM4
    exact zv_tin (tgt := 761) dL_law_33 c15 (by decide) (by decide) (by decide) rfl (by decide) (fun _ _ _ => vL_15 hw hX hx1 hm1 n0 n1 i3 hi _ _ _ _ rfl rfl rfl rfl M (fun M' => ∃ L' E', zInv i L' M' E') g0 M4 hM4 h4)
  by_cases c16 : z = 16
  · obtain ⟨M4, hM4, h4⟩ := qL_16 hI (zi_rg (xs (i3 + 1).toNat)) (zi_rg (xs (i3 + 2).toNat))
    rw [← hk] at hM4
    exact zv_tin (tgt := 814) dL_law_33 c16 (by decide) (by decide) (by decide) rfl (by decide) (fun _ _ _ => vL_16 hw hX hx1 hm1 n0 n1 i3 hi _ _ rfl rfl M (fun M' => ∃ L' E', zInv i L' M' E') g0 M4 hM4 h4)
  by_cases c17 : z = 17
  · obtain ⟨M4, hM4, h4⟩ := qL_17 hI (zi_rg (xs (i3 + 1).toNat)) (zi_rg (xs (i3 + 2).toNat))
    rw [← hk] at hM4
    exact zv_tin (tgt := 847) dL_law_33 c17 (by decide) (by decide) (by decide) rfl (by decide) (fun _ _ _ => vL_17 hw hX hx1 hm1 n0 n1 i3 hi _ _ rfl rfl M (fun M' => ∃ L' E', zInv i L' M' E') g0 M4 hM4 h4)
  by_cases c18 : z = 18
  · obtain ⟨M4, hM4, h4⟩ := qL_18 hI (zi_rg (xs (i3 + 1).toNat)) (zi_rg (xs (i3 + 2).toNat)) (zi_rg (xs (i3 + 3).toNat)) (zi_rg (xs (i3 + 4).toNat))
    rw [← hk] at hM4
    exact zv_tin (tgt := 881) dL_law_33 c18 (by decide) (by decide) (by decide) rfl (by decide) (fun _ _ _ => vL_18 hw hX hx1 hm1 n0 n1 i3 hi _ _ _ _ rfl rfl rfl rfl M (fun M' => ∃ L' E', zInv i L' M' E') g0 M4 hM4 h4)
  by_cases c19 : z = 19
  · obtain ⟨M4, hM4, h4⟩ := qL_19 hI (zi_rg (xs (i3 + 1).toNat)) (zi_rg (xs (i3 + 2).toNat)) (zi_rg (xs (i3 + 3).toNat)) (zi_rg (xs (i3 + 4).toNat))
    rw [← hk] at hM4
    exact zv_tin (tgt := 934) dL_law_33 c19 (by decide) (by decide) (by decide) rfl (by decide) (fun _ _ _ => vL_19 hw hX hx1 hm1 n0 n1 i3 hi _ _ _ _ rfl rfl rfl rfl M (fun M' => ∃ L' E', zInv i L' M' E') g0 M4 hM4 h4)
  by_cases c20 : z = 20
  · obtain ⟨M4, hM4, h4⟩ := qL_20 hI (zi_rg (xs (i3 + 1).toNat)) (zi_rg (xs (i3 + 2).toNat))
    rw [← hk] at hM4
    exact zv_tin (tgt := 987) dL_law_33 c20 (by decide) (by decide) (by decide) rfl (by decide) (fun _ _ _ => vL_20 hw hX hx1 hm1 n0 n1 i3 hi _ _ rfl rfl M (fun M' => ∃ L' E', zInv i L' M' E') g0 M4 hM4 h4)
  by_cases c21 : z = 21
  · obtain ⟨M4, hM4, h4⟩ := qL_21 hI (zi_rg (xs (i3 + 1).toNat)) (zi_rg (xs (i3 + 2).toNat)) (zi_rg (xs (i3 + 3).toNat))
    rw [← hk] at hM4
    exact zv_tin (tgt := 1036) dL_law_33 c21 (by decide) (by decide) (by decide) rfl (by decide) (fun _ _ _ => vL_21 hw hX hx1 hm1 n0 n1 i3 hi _ _ _ rfl rfl rfl M (fun M' => ∃ L' E', zInv i L' M' E') g0 M4 hM4 h4)
  by_cases c22 : z = 22
  · obtain ⟨M4, hM4, h4⟩ := qL_22 hI (zi_rg (xs (i3 + 1).toNat))
    rw [← hk] at hM4
    exact zv_tin (tgt := 1079) dL_law_33 c22 (by decide) (by decide) (by decide) rfl (by decide) (fun _ _ _ => vL_22 hw hX hx1 hm1 n0 n1 i3 hi _ rfl M (fun M' => ∃ L' E', zInv i L' M' E') g0 M4 hM4 h4)
  by_cases c23 : z = 23
  · obtain ⟨M4, hM4, h4⟩ := qL_23 hI (zi_rg (xs (i3 + 1).toNat)) (zi_rg (xs (i3 + 2).toNat)) (zi_rg (xs (i3 + 3).toNat))
    rw [← hk] at hM4
    exact zv_tin (tgt := 1102) dL_law_33 c23 (by decide) (by decide) (by decide) rfl (by decide) (fun _ _ _ => vL_23 hw hX hx1 hm1 n0 n1 i3 hi _ _ _ rfl rfl rfl M (fun M' => ∃ L' E', zInv i L' M' E') g0 M4 hM4 h4)
  by_cases c24 : z = 24
  · obtain ⟨M4, hM4, h4⟩ := qL_24 hI (zi_rg (xs (i3 + 1).toNat)) (zi_rg (xs (i3 + 2).toNat))
    rw [← hk] at hM4
    exact zv_tin (tgt := 1145) dL_law_33 c24 (by decide) (by decide) (by decide) rfl (by decide) (fun _ _ _ => vL_24 hw hX hx1 hm1 n0 n1 i3 hi _ _ rfl rfl M (fun M' => ∃ L' E', zInv i L' M' E') g0 M4 hM4 h4)
  by_cases c25 : z = 25
  · obtain ⟨M4, hM4, h4⟩ := qL_25 hI (zi_rg (xs (i3 + 1).toNat)) (zi_rg (xs (i3 + 2).toNat)) (zi_rg (xs (i3 + 3).toNat))
    rw [← hk] at hM4
    exact zv_tin (tgt := 1178) dL_law_33 c25 (by decide) (by decide) (by decide) rfl (by decide) (fun _ _ _ => vL_25 hw hX hx1 hm1 n0 n1 i3 hi _ _ _ rfl rfl rfl M (fun M' => ∃ L' E', zInv i L' M' E') g0 M4 hM4 h4)
  by_cases c26 : z = 26
  · obtain ⟨M4, hM4, h4⟩ := qL_26 hI (zi_rg (xs (i3 + 1).toNat)) (zi_rg (xs (i3 + 2).toNat))
    rw [← hk] at hM4
    exact zv_tin (tgt := 1222) dL_law_33 c26 (by decide) (by decide) (by decide) rfl (by decide) (fun _ _ _ => vL_26 hw hX hx1 hm1 n0 n1 i3 hi _ _ rfl rfl M (fun M' => ∃ L' E', zInv i L' M' E') g0 M4 hM4 h4)
  by_cases c27 : z = 27
  · obtain ⟨M4, hM4, h4⟩ := qL_27 hI (zi_rg (xs (i3 + 1).toNat)) (zi_rg (xs (i3 + 2).toNat)) (zi_rg (xs (i3 + 3).toNat))
    rw [← hk] at hM4
    exact zv_tin (tgt := 1255) dL_law_33 c27 (by decide) (by decide) (by decide) rfl (by decide) (fun _ _ _ => vL_27 hw hX hx1 hm1 n0 n1 i3 hi _ _ _ rfl rfl rfl M (fun M' => ∃ L' E', zInv i L' M' E') g0 M4 hM4 h4)
  by_cases c28 : z = 28
  · obtain ⟨M4, hM4, h4⟩ := qL_28 hI (zi_rg (xs (i3 + 1).toNat)) (zi_rg (xs (i3 + 2).toNat)) (zi_rg (xs (i3 + 3).toNat)) (zi_rg (xs (i3 + 4).toNat)) (zi_rg (xs (i3 + 5).toNat))
    rw [← hk] at hM4
    exact zv_tin (tgt := 1298) dL_law_33 c28 (by decide) (by decide) (by decide) rfl (by decide) (fun _ _ _ => vL_28 hw hX hx1 hm1 hk hi3 n0 n1 ⟨by omega, by omega⟩ i3 hi _ _ _ _ _ rfl rfl rfl rfl rfl M (fun M' => ∃ L' E', zInv i L' M' E') g1 M4 hM4 h4)
  by_cases c29 : z = 29
  · obtain ⟨M4, hM4, h4⟩ := qL_29 hI (zi_rg (xs (i3 + 1).toNat)) (zi_rg (xs (i3 + 2).toNat))
    rw [← hk] at hM4
    exact zv_tin (tgt := 1361) dL_law_33 c29 (by decide) (by decide) (by decide) rfl (by decide) (fun _ _ _ => vL_29 hw hX hx1 hm1 n0 n1 i3 hi _ _ rfl rfl M (fun M' => ∃ L' E', zInv i L' M' E') g0 M4 hM4 h4)
  by_cases c30 : z = 30
  · obtain ⟨M4, hM4, h4⟩ := qL_30 hI (zi_rg (xs (i3 + 1).toNat)) (zi_rg (xs (i3 + 2).toNat)) (zi_rg (xs (i3 + 3).toNat))
    rw [← hk] at hM4
    exact zv_tin (tgt := 1394) dL_law_33 c30 (by decide) (by decide) (by decide) rfl (by decide) (fun _ _ _ => vL_30 hw hX hx1 hm1 n0 n1 i3 hi _ _ _ rfl rfl rfl M (fun M' => ∃ L' E', zInv i L' M' E') g0 M4 hM4 h4)
  by_cases c31 : z = 31
  · obtain ⟨M4, hM4, h4⟩ := qL_31 hI (zi_rg (xs (i3 + 1).toNat)) (zi_rg (xs (i3 + 2).toNat))
    rw [← hk] at hM4
    exact zv_tin (tgt := 1437) dL_law_33 c31 (by decide) (by decide) (by decide) rfl (by decide) (fun _ _ _ => vL_31 hw hX hx1 hm1 n0 n1 i3 hi _ _ rfl rfl M (fun M' => ∃ L' E', zInv i L' M' E') g0 M4 hM4 h4)
  by_cases c32 : z = 32
  · obtain ⟨M4, hM4, h4⟩ := qL_32 hI (zi_rg (xs (i3 + 1).toNat)) (zi_rg (xs (i3 + 2).toNat)) (zi_rg (xs (i3 + 3).toNat)) (zi_rg (xs (i3 + 4).toNat))
    rw [← hk] at hM4
    exact zv_tin (tgt := 1470) dL_law_33 c32 (by decide) (by decide) (by decide) rfl (by decide) (fun _ _ _ => vL_32 hw hX hx1 hm1 n0 n1 i3 hi _ _ _ _ rfl rfl rfl rfl M (fun M' => ∃ L' E', zInv i L' M' E') g0 M4 hM4 h4)
  by_cases c33 : z = 33
  · obtain ⟨M4, hM4, h4⟩ := qL_33 hI (zi_rg (xs (i3 + 1).toNat)) (zi_rg (xs (i3 + 2).toNat))
    rw [← hk] at hM4
    exact zv_tin (tgt := 1539) dL_law_33 c33 (by decide) (by decide) (by decide) rfl (by decide) (fun _ _ _ => vL_33 hw hX hx1 hm1 n0 n1 i3 hi _ _ rfl rfl M (fun M' => ∃ L' E', zInv i L' M' E') g0 M4 hM4 h4)
  by_cases c34 : z = 34
  · obtain ⟨M4, hM4, h4⟩ := qL_34 hI (zi_rg (xs (i3 + 1).toNat))
    rw [← hk] at hM4
    exact zv_tin (tgt := 1572) dL_law_33 c34 (by decide) (by decide) (by decide) rfl (by decide) (fun _ _ _ => vL_34 hw hX hx1 hm1 n0 n1 i3 hi _ rfl M (fun M' => ∃ L' E', zInv i L' M' E') g0 M4 hM4 h4)
  by_cases c35 : z = 35
  · obtain ⟨M4, hM4, h4⟩ := qL_35 hI (zi_rg (xs (i3 + 1).toNat))
    rw [← hk] at hM4
    exact zv_tin (tgt := 1595) dL_law_33 c35 (by decide) (by decide) (by decide) rfl (by decide) (fun _ _ _ => vL_35 hw hX hx1 hm1 n0 n1 i3 hi _ rfl M (fun M' => ∃ L' E', zInv i L' M' E') g0 M4 hM4 h4)
  by_cases c36 : z = 36
  · obtain ⟨M4, hM4, h4⟩ := qL_36 hI (zi_rg (xs (i3 + 1).toNat))
    rw [← hk] at hM4
    exact zv_tin (tgt := 1618) dL_law_33 c36 (by decide) (by decide) (by decide) rfl (by decide) (fun _ _ _ => vL_36 hw hX hx1 hm1 n0 n1 i3 hi _ rfl M (fun M' => ∃ L' E', zInv i L' M' E') g0 M4 hM4 h4)
  by_cases c37 : z = 37
  · exact zv_tin (tgt := 1641) dL_law_33 c37 (by decide) (by decide) (by decide) rfl (by decide) (fun _ _ _ => vL_37 hw hk hI hroom (fun L' M' E' h => g0 M' ⟨L', E', h⟩) hE)
  by_cases c38 : z = 38
  · obtain ⟨M4, hM4, h4⟩ := qL_38 hI (zi_rg (xs (i3 + 1).toNat))
    rw [← hk] at hM4
    exact zv_tin (tgt := 1654) dL_law_33 c38 (by decide) (by decide) (by decide) rfl (by decide) (fun _ _ _ => vL_38 hw hX hx1 hm1 n0 n1 i3 hi _ rfl M (fun M' => ∃ L' E', zInv i L' M' E') g0 M4 hM4 h4)
  by_cases c39 : z = 39
  · obtain ⟨M4, hM4, h4⟩ := qL_39 hI (zi_rg (xs (i3 + 1).toNat))
    rw [← hk] at hM4
    exact zv_tin (tgt := 1677) dL_law_33 c39 (by decide) (by decide) (by decide) rfl (by decide) (fun _ _ _ => vL_39 hw hX hx1 hm1 n0 n1 i3 hi _ rfl M (fun M' => ∃ L' E', zInv i L' M' E') g0 M4 hM4 h4)
  exact zv_tout (tgt := 1700) dL_law_33 ⟨by omega, by omega⟩ (by omega) (by decide) (fun _ _ _ => g0 M ⟨L, E, hI⟩)
/-- the loop -/
theorem zB_loop {κ : zC} {b Ln : Nat} {xs : Nat → Int32} (hX : zSc κ b Ln xs) (hLn : Ln ≤ 3072) (hR : 200 + 16 * 513 ≤ κ.2.2.2.1.cells ∧ 60000 + 1486 * 513 ≤ κ.2.2.2.1.slots)
    (hF : ∀ (w : zW) (M : zM) (j : Nat), j ≤ 512 → zRt κ w (200 + 16 * j, 60000 + 1486 * j, 1000) 1 (M, 1)) : ∀ (r j i L : Nat) (w : zW) (M : zM) (E : zE), Ln < 6 * j + r → 6 * j ≤ Ln + 0 → w.1 = zKn i → zWk w → zInv i L M E → zB cL_law RL 4 (some .boolean) κ w (200 + 16 * j, 60000 + 1486 * j, 1000) 18 [(3, iv ((6 * j : Nat) : Int)), (1, rn w 1), (2, rn w 76), (0, Value.ref b)] [] M := by
  intro r
  induction r with
  | zero => intro j i L w M E h1 h2; omega
  | succ r ih =>
    intro j i L w M E h1 h2 hk hw hI
    refine (zv_iload_n (o := some ()) (E := fun _ => True) dL_law_18 0 rfl ?_) () rfl trivial
    refine zv_aload_n dL_law_19 3 rfl ?_
    refine zv_sln hX dL_law_20 ?_
    refine zv_bipush (z := 6) dL_law_21 (by decide) ?_
    refine zv_isub dL_law_23 ?_
    by_cases c : (Ln : Int) - 6 < ((6 * j : Nat) : Int)
    · refine zv_eq (o' := zbr ((6 * j : Nat) : Int) ((Ln : Int) - 6) ((Ln : Int) - 6 < ((6 * j : Nat) : Int)) (some ()) none) (by
        unfold zbr
        rw [if_pos ⟨⟨by omega, by omega⟩, by omega, by omega⟩, if_pos c]) ?_
      refine zv_icmp_gt (tgt := 1706) dL_law_24 (by decide) ?_ zv_none
      refine zv_iconst (z := 1) dL_law_1706 ?_
      exact zv_ret (t := (M, 1)) (fun _ => hF w M j (by omega)) (zv_zrB (Or.inr rfl) dL_law_1707)
    · refine zv_eq (o' := zbr ((6 * j : Nat) : Int) ((Ln : Int) - 6) ((Ln : Int) - 6 < ((6 * j : Nat) : Int)) none (some ())) (by
        unfold zbr
        rw [if_pos ⟨⟨by omega, by omega⟩, by omega, by omega⟩, if_neg c]) ?_
      refine zv_icmp_gt (tgt := 1706) dL_law_24 (by decide) zv_none (fun _ _ _ => ?_)
      refine zB_call hw hX hk hI ⟨by omega, by omega⟩ ⟨by omega, by omega⟩ (fun w' i' L' M' E' hk' hw' hI' => zB_next ?_)
      have K := ih (j + 1) i' L' w' M' E' (by omega) (by omega) hk' hw' hI'
      have e1 : 200 + 16 * (j + 1) = 200 + 16 * j + 16 := by omega
      have e2 : 60000 + 1486 * (j + 1) = 60000 + 1486 * j + 1486 := by omega
      have e3 : ((6 * (j + 1) : Nat) : Int) = ((6 * j : Nat) : Int) + 6 := by omega
      rw [e1, e2, e3] at K
      exact K

/-! the functions at their objects -/
theorem zQ_ {i r s v : Nat} (h : r < 129) (e : (zKL.getD r (0, 0, [])).2.2.getD s 0 = v) : zfr (zKn i) r s = v := by
  unfold zfr zKn
  rw [if_pos (by omega)]
  exact e
theorem zQl_ {i r v : Nat} (h : r < 129) (e : (zKL.getD r (0, 0, [])).2.1 = v) : zlen (zKn i) r = v := by
  unfold zlen zKn
  rw [if_pos (by omega)]
  exact e
/-- a LAW at L: 52 or 64 -/
theorem zQL {i L : Nat} (h : L = 52 ∨ L = 64) : zfr (zKn i) L 2 = L + 1 ∧ zfr (zKn i) L 3 = L + 2 ∧ zfr (zKn i) L 4 = L + 3 ∧ zfr (zKn i) L 5 = L + 4 ∧ zfr (zKn i) L 6 = L + 5 ∧ zfr (zKn i) L 8 = L + 6 ∧ zfr (zKn i) L 9 = L + 7 ∧ zfr (zKn i) L 10 = L + 8 ∧ zfr (zKn i) L 11 = L + 9 ∧ zfr (zKn i) L 12 = L + 10 ∧ zfr (zKn i) L 14 = L + 11 := by
  rcases h with rfl | rfl
  all_goals exact ⟨zQ_ (by decide) rfl, zQ_ (by decide) rfl, zQ_ (by decide) rfl, zQ_ (by decide) rfl, zQ_ (by decide) rfl, zQ_ (by decide) rfl, zQ_ (by decide) rfl, zQ_ (by decide) rfl, zQ_ (by decide) rfl, zQ_ (by decide) rfl, zQ_ (by decide) rfl⟩
theorem zT_ {i r v : Nat} (h : r < 129) (e : (zKL.getD r (0, 0, [])).1 = v) : ztag (zKn i) r = v := by
  unfold ztag zKn
  rw [if_pos (by omega)]
  exact e
theorem zq_1_0 {i : Nat} : zfr (zKn i) 1 0 = 2 := zQ_ (by decide) rfl
theorem zq_1_1 {i : Nat} : zfr (zKn i) 1 1 = 4 := zQ_ (by decide) rfl
theorem zq_1_2 {i : Nat} : zfr (zKn i) 1 2 = 20 := zQ_ (by decide) rfl
theorem zq_1_3 {i : Nat} : zfr (zKn i) 1 3 = 21 := zQ_ (by decide) rfl
theorem zq_1_4 {i : Nat} : zfr (zKn i) 1 4 = 24 := zQ_ (by decide) rfl
theorem zq_1_5 {i : Nat} : zfr (zKn i) 1 5 = 39 := zQ_ (by decide) rfl
theorem zq_1_6 {i : Nat} : zfr (zKn i) 1 6 = 43 := zQ_ (by decide) rfl
theorem zq_1_7 {i : Nat} : zfr (zKn i) 1 7 = 46 := zQ_ (by decide) rfl
theorem zq_1_8 {i : Nat} : zfr (zKn i) 1 8 = 50 := zQ_ (by decide) rfl
theorem zq_1_9 {i : Nat} : zfr (zKn i) 1 9 = 51 := zQ_ (by decide) rfl
theorem zq_2_0 {i : Nat} : zfr (zKn i) 2 0 = 3 := zQ_ (by decide) rfl
theorem zq_4_0 {i : Nat} : zfr (zKn i) 4 0 = 5 := zQ_ (by decide) rfl
theorem zq_4_1 {i : Nat} : zfr (zKn i) 4 1 = 18 := zQ_ (by decide) rfl
theorem zq_4_2 {i : Nat} : zfr (zKn i) 4 2 = 6 := zQ_ (by decide) rfl
theorem zq_4_3 {i : Nat} : zfr (zKn i) 4 3 = 19 := zQ_ (by decide) rfl
theorem zq_4_4 {i : Nat} : zfr (zKn i) 4 4 = 7 := zQ_ (by decide) rfl
theorem zq_4_5 {i : Nat} : zfr (zKn i) 4 5 = 8 := zQ_ (by decide) rfl
theorem zq_4_6 {i : Nat} : zfr (zKn i) 4 6 = 9 := zQ_ (by decide) rfl
theorem zq_4_7 {i : Nat} : zfr (zKn i) 4 7 = 10 := zQ_ (by decide) rfl
theorem zq_4_8 {i : Nat} : zfr (zKn i) 4 8 = 11 := zQ_ (by decide) rfl
theorem zq_4_9 {i : Nat} : zfr (zKn i) 4 9 = 12 := zQ_ (by decide) rfl
theorem zq_4_10 {i : Nat} : zfr (zKn i) 4 10 = 13 := zQ_ (by decide) rfl
theorem zq_4_11 {i : Nat} : zfr (zKn i) 4 11 = 14 := zQ_ (by decide) rfl
theorem zq_4_12 {i : Nat} : zfr (zKn i) 4 12 = 15 := zQ_ (by decide) rfl
theorem zq_4_13 {i : Nat} : zfr (zKn i) 4 13 = 16 := zQ_ (by decide) rfl
theorem zq_4_14 {i : Nat} : zfr (zKn i) 4 14 = 17 := zQ_ (by decide) rfl
theorem zq_21_0 {i : Nat} : zfr (zKn i) 21 0 = 22 := zQ_ (by decide) rfl
theorem zq_21_1 {i : Nat} : zfr (zKn i) 21 1 = 23 := zQ_ (by decide) rfl
theorem zq_21_2 {i : Nat} : zfr (zKn i) 21 2 = 24 := zQ_ (by decide) rfl
theorem zq_21_3 {i : Nat} : zfr (zKn i) 21 3 = 36 := zQ_ (by decide) rfl
theorem zq_21_4 {i : Nat} : zfr (zKn i) 21 4 = 37 := zQ_ (by decide) rfl
theorem zq_21_5 {i : Nat} : zfr (zKn i) 21 5 = 38 := zQ_ (by decide) rfl
theorem zq_24_0 {i : Nat} : zfr (zKn i) 24 0 = 25 := zQ_ (by decide) rfl
theorem zq_24_1 {i : Nat} : zfr (zKn i) 24 1 = 26 := zQ_ (by decide) rfl
theorem zq_24_2 {i : Nat} : zfr (zKn i) 24 2 = 27 := zQ_ (by decide) rfl
theorem zq_24_3 {i : Nat} : zfr (zKn i) 24 3 = 28 := zQ_ (by decide) rfl
theorem zq_24_4 {i : Nat} : zfr (zKn i) 24 4 = 29 := zQ_ (by decide) rfl
theorem zq_24_5 {i : Nat} : zfr (zKn i) 24 5 = 30 := zQ_ (by decide) rfl
theorem zq_24_6 {i : Nat} : zfr (zKn i) 24 6 = 31 := zQ_ (by decide) rfl
theorem zq_24_7 {i : Nat} : zfr (zKn i) 24 7 = 32 := zQ_ (by decide) rfl
theorem zq_24_8 {i : Nat} : zfr (zKn i) 24 8 = 33 := zQ_ (by decide) rfl
theorem zq_24_9 {i : Nat} : zfr (zKn i) 24 9 = 34 := zQ_ (by decide) rfl
theorem zq_24_10 {i : Nat} : zfr (zKn i) 24 10 = 35 := zQ_ (by decide) rfl
theorem zq_39_0 {i : Nat} : zfr (zKn i) 39 0 = 40 := zQ_ (by decide) rfl
theorem zq_39_1 {i : Nat} : zfr (zKn i) 39 1 = 41 := zQ_ (by decide) rfl
theorem zq_39_2 {i : Nat} : zfr (zKn i) 39 2 = 42 := zQ_ (by decide) rfl
theorem zq_43_0 {i : Nat} : zfr (zKn i) 43 0 = 44 := zQ_ (by decide) rfl
theorem zq_43_1 {i : Nat} : zfr (zKn i) 43 1 = 45 := zQ_ (by decide) rfl
theorem zq_46_0 {i : Nat} : zfr (zKn i) 46 0 = 47 := zQ_ (by decide) rfl
theorem zq_46_2 {i : Nat} : zfr (zKn i) 46 2 = 48 := zQ_ (by decide) rfl
theorem zq_46_3 {i : Nat} : zfr (zKn i) 46 3 = 49 := zQ_ (by decide) rfl
theorem zq_76_0 {i : Nat} : zfr (zKn i) 76 0 = 77 := zQ_ (by decide) rfl
theorem zq_76_1 {i : Nat} : zfr (zKn i) 76 1 = 78 := zQ_ (by decide) rfl
theorem zq_76_2 {i : Nat} : zfr (zKn i) 76 2 = 79 := zQ_ (by decide) rfl
theorem zq_76_3 {i : Nat} : zfr (zKn i) 76 3 = 80 := zQ_ (by decide) rfl
theorem zq_76_4 {i : Nat} : zfr (zKn i) 76 4 = 81 := zQ_ (by decide) rfl
theorem zq_76_5 {i : Nat} : zfr (zKn i) 76 5 = 82 := zQ_ (by decide) rfl
theorem zq_76_6 {i : Nat} : zfr (zKn i) 76 6 = 83 := zQ_ (by decide) rfl
theorem zq_76_7 {i : Nat} : zfr (zKn i) 76 7 = 84 := zQ_ (by decide) rfl
theorem zq_76_8 {i : Nat} : zfr (zKn i) 76 8 = 85 := zQ_ (by decide) rfl
theorem zq_76_9 {i : Nat} : zfr (zKn i) 76 9 = 86 := zQ_ (by decide) rfl
theorem zq_76_10 {i : Nat} : zfr (zKn i) 76 10 = 87 := zQ_ (by decide) rfl
theorem zq_76_11 {i : Nat} : zfr (zKn i) 76 11 = 88 := zQ_ (by decide) rfl
theorem zq_76_12 {i : Nat} : zfr (zKn i) 76 12 = 89 := zQ_ (by decide) rfl
theorem zq_76_13 {i : Nat} : zfr (zKn i) 76 13 = 90 := zQ_ (by decide) rfl
theorem zq_76_14 {i : Nat} : zfr (zKn i) 76 14 = 91 := zQ_ (by decide) rfl
theorem zq_76_15 {i : Nat} : zfr (zKn i) 76 15 = 92 := zQ_ (by decide) rfl
theorem zq_76_16 {i : Nat} : zfr (zKn i) 76 16 = 93 := zQ_ (by decide) rfl
theorem zq_76_17 {i : Nat} : zfr (zKn i) 76 17 = 94 := zQ_ (by decide) rfl
theorem zq_76_18 {i : Nat} : zfr (zKn i) 76 18 = 95 := zQ_ (by decide) rfl
theorem zq_76_19 {i : Nat} : zfr (zKn i) 76 19 = 96 := zQ_ (by decide) rfl
theorem zq_76_21 {i : Nat} : zfr (zKn i) 76 21 = 97 := zQ_ (by decide) rfl
theorem zq_76_22 {i : Nat} : zfr (zKn i) 76 22 = 98 := zQ_ (by decide) rfl
theorem zq_76_23 {i : Nat} : zfr (zKn i) 76 23 = 99 := zQ_ (by decide) rfl
theorem zq_76_24 {i : Nat} : zfr (zKn i) 76 24 = 100 := zQ_ (by decide) rfl
theorem zq_76_25 {i : Nat} : zfr (zKn i) 76 25 = 101 := zQ_ (by decide) rfl
theorem zq_76_26 {i : Nat} : zfr (zKn i) 76 26 = 102 := zQ_ (by decide) rfl
theorem zq_76_27 {i : Nat} : zfr (zKn i) 76 27 = 103 := zQ_ (by decide) rfl
theorem zq_76_29 {i : Nat} : zfr (zKn i) 76 29 = 104 := zQ_ (by decide) rfl
theorem zq_76_30 {i : Nat} : zfr (zKn i) 76 30 = 105 := zQ_ (by decide) rfl
theorem zq_76_31 {i : Nat} : zfr (zKn i) 76 31 = 106 := zQ_ (by decide) rfl
theorem zq_76_32 {i : Nat} : zfr (zKn i) 76 32 = 107 := zQ_ (by decide) rfl
theorem zq_76_33 {i : Nat} : zfr (zKn i) 76 33 = 108 := zQ_ (by decide) rfl
theorem zq_76_43 {i : Nat} : zfr (zKn i) 76 43 = 109 := zQ_ (by decide) rfl
theorem zq_76_44 {i : Nat} : zfr (zKn i) 76 44 = 110 := zQ_ (by decide) rfl
theorem zq_76_46 {i : Nat} : zfr (zKn i) 76 46 = 111 := zQ_ (by decide) rfl
theorem zq_76_47 {i : Nat} : zfr (zKn i) 76 47 = 112 := zQ_ (by decide) rfl
theorem zq_76_50 {i : Nat} : zfr (zKn i) 76 50 = 113 := zQ_ (by decide) rfl
theorem zq_76_51 {i : Nat} : zfr (zKn i) 76 51 = 114 := zQ_ (by decide) rfl
theorem zq_76_52 {i : Nat} : zfr (zKn i) 76 52 = 115 := zQ_ (by decide) rfl
theorem zq_76_53 {i : Nat} : zfr (zKn i) 76 53 = 116 := zQ_ (by decide) rfl
theorem zq_76_54 {i : Nat} : zfr (zKn i) 76 54 = 117 := zQ_ (by decide) rfl
theorem zq_76_55 {i : Nat} : zfr (zKn i) 76 55 = 118 := zQ_ (by decide) rfl
theorem zq_76_56 {i : Nat} : zfr (zKn i) 76 56 = 119 := zQ_ (by decide) rfl
theorem zq_76_57 {i : Nat} : zfr (zKn i) 76 57 = 120 := zQ_ (by decide) rfl
theorem zq_76_58 {i : Nat} : zfr (zKn i) 76 58 = 121 := zQ_ (by decide) rfl
theorem zq_76_65 {i : Nat} : zfr (zKn i) 76 65 = 122 := zQ_ (by decide) rfl
theorem zq_76_66 {i : Nat} : zfr (zKn i) 76 66 = 123 := zQ_ (by decide) rfl
theorem zq_76_67 {i : Nat} : zfr (zKn i) 76 67 = 124 := zQ_ (by decide) rfl
theorem zq_76_68 {i : Nat} : zfr (zKn i) 76 68 = 125 := zQ_ (by decide) rfl
theorem zq_76_69 {i : Nat} : zfr (zKn i) 76 69 = 126 := zQ_ (by decide) rfl
theorem zq_76_71 {i : Nat} : zfr (zKn i) 76 71 = 127 := zQ_ (by decide) rfl
theorem zq_76_72 {i : Nat} : zfr (zKn i) 76 72 = 128 := zQ_ (by decide) rfl
theorem zt_1 {i : Nat} : ztag (zKn i) 1 = 11 := zT_ (by decide) rfl
theorem zt_2 {i : Nat} : ztag (zKn i) 2 = 7 := zT_ (by decide) rfl
theorem zt_3 {i : Nat} : ztag (zKn i) 3 = 20 := zT_ (by decide) rfl
theorem zt_4 {i : Nat} : ztag (zKn i) 4 = 8 := zT_ (by decide) rfl
theorem zt_5 {i : Nat} : ztag (zKn i) 5 = 20 := zT_ (by decide) rfl
theorem zt_6 {i : Nat} : ztag (zKn i) 6 = 20 := zT_ (by decide) rfl
theorem zt_7 {i : Nat} : ztag (zKn i) 7 = 20 := zT_ (by decide) rfl
theorem zt_8 {i : Nat} : ztag (zKn i) 8 = 20 := zT_ (by decide) rfl
theorem zt_9 {i : Nat} : ztag (zKn i) 9 = 20 := zT_ (by decide) rfl
theorem zt_10 {i : Nat} : ztag (zKn i) 10 = 20 := zT_ (by decide) rfl
theorem zt_11 {i : Nat} : ztag (zKn i) 11 = 20 := zT_ (by decide) rfl
theorem zt_12 {i : Nat} : ztag (zKn i) 12 = 20 := zT_ (by decide) rfl
theorem zt_13 {i : Nat} : ztag (zKn i) 13 = 20 := zT_ (by decide) rfl
theorem zt_14 {i : Nat} : ztag (zKn i) 14 = 20 := zT_ (by decide) rfl
theorem zt_15 {i : Nat} : ztag (zKn i) 15 = 20 := zT_ (by decide) rfl
theorem zt_16 {i : Nat} : ztag (zKn i) 16 = 20 := zT_ (by decide) rfl
theorem zt_17 {i : Nat} : ztag (zKn i) 17 = 20 := zT_ (by decide) rfl
theorem zt_18 {i : Nat} : ztag (zKn i) 18 = 20 := zT_ (by decide) rfl
theorem zt_19 {i : Nat} : ztag (zKn i) 19 = 20 := zT_ (by decide) rfl
theorem zt_20 {i : Nat} : ztag (zKn i) 20 = 24 := zT_ (by decide) rfl
theorem zt_21 {i : Nat} : ztag (zKn i) 21 = 9 := zT_ (by decide) rfl
theorem zt_22 {i : Nat} : ztag (zKn i) 22 = 21 := zT_ (by decide) rfl
theorem zt_23 {i : Nat} : ztag (zKn i) 23 = 20 := zT_ (by decide) rfl
theorem zt_24 {i : Nat} : ztag (zKn i) 24 = 3 := zT_ (by decide) rfl
theorem zt_25 {i : Nat} : ztag (zKn i) 25 = 20 := zT_ (by decide) rfl
theorem zt_26 {i : Nat} : ztag (zKn i) 26 = 20 := zT_ (by decide) rfl
theorem zt_27 {i : Nat} : ztag (zKn i) 27 = 20 := zT_ (by decide) rfl
theorem zt_28 {i : Nat} : ztag (zKn i) 28 = 20 := zT_ (by decide) rfl
theorem zt_29 {i : Nat} : ztag (zKn i) 29 = 20 := zT_ (by decide) rfl
theorem zt_30 {i : Nat} : ztag (zKn i) 30 = 20 := zT_ (by decide) rfl
theorem zt_31 {i : Nat} : ztag (zKn i) 31 = 20 := zT_ (by decide) rfl
theorem zt_32 {i : Nat} : ztag (zKn i) 32 = 20 := zT_ (by decide) rfl
theorem zt_33 {i : Nat} : ztag (zKn i) 33 = 20 := zT_ (by decide) rfl
theorem zt_34 {i : Nat} : ztag (zKn i) 34 = 20 := zT_ (by decide) rfl
theorem zt_35 {i : Nat} : ztag (zKn i) 35 = 20 := zT_ (by decide) rfl
theorem zt_36 {i : Nat} : ztag (zKn i) 36 = 20 := zT_ (by decide) rfl
theorem zt_37 {i : Nat} : ztag (zKn i) 37 = 20 := zT_ (by decide) rfl
theorem zt_38 {i : Nat} : ztag (zKn i) 38 = 20 := zT_ (by decide) rfl
theorem zt_39 {i : Nat} : ztag (zKn i) 39 = 5 := zT_ (by decide) rfl
theorem zt_40 {i : Nat} : ztag (zKn i) 40 = 20 := zT_ (by decide) rfl
theorem zt_41 {i : Nat} : ztag (zKn i) 41 = 22 := zT_ (by decide) rfl
theorem zt_42 {i : Nat} : ztag (zKn i) 42 = 20 := zT_ (by decide) rfl
theorem zt_43 {i : Nat} : ztag (zKn i) 43 = 2 := zT_ (by decide) rfl
theorem zt_44 {i : Nat} : ztag (zKn i) 44 = 21 := zT_ (by decide) rfl
theorem zt_45 {i : Nat} : ztag (zKn i) 45 = 20 := zT_ (by decide) rfl
theorem zt_46 {i : Nat} : ztag (zKn i) 46 = 10 := zT_ (by decide) rfl
theorem zt_47 {i : Nat} : ztag (zKn i) 47 = 20 := zT_ (by decide) rfl
theorem zt_48 {i : Nat} : ztag (zKn i) 48 = 20 := zT_ (by decide) rfl
theorem zt_49 {i : Nat} : ztag (zKn i) 49 = 23 := zT_ (by decide) rfl
theorem zt_50 {i : Nat} : ztag (zKn i) 50 = 6 := zT_ (by decide) rfl
theorem zt_51 {i : Nat} : ztag (zKn i) 51 = 20 := zT_ (by decide) rfl
theorem zt_52 {i : Nat} : ztag (zKn i) 52 = 4 := zT_ (by decide) rfl
theorem zt_53 {i : Nat} : ztag (zKn i) 53 = 20 := zT_ (by decide) rfl
theorem zt_54 {i : Nat} : ztag (zKn i) 54 = 20 := zT_ (by decide) rfl
theorem zt_55 {i : Nat} : ztag (zKn i) 55 = 20 := zT_ (by decide) rfl
theorem zt_56 {i : Nat} : ztag (zKn i) 56 = 20 := zT_ (by decide) rfl
theorem zt_57 {i : Nat} : ztag (zKn i) 57 = 20 := zT_ (by decide) rfl
theorem zt_58 {i : Nat} : ztag (zKn i) 58 = 20 := zT_ (by decide) rfl
theorem zt_59 {i : Nat} : ztag (zKn i) 59 = 20 := zT_ (by decide) rfl
theorem zt_60 {i : Nat} : ztag (zKn i) 60 = 21 := zT_ (by decide) rfl
theorem zt_61 {i : Nat} : ztag (zKn i) 61 = 21 := zT_ (by decide) rfl
theorem zt_62 {i : Nat} : ztag (zKn i) 62 = 20 := zT_ (by decide) rfl
theorem zt_63 {i : Nat} : ztag (zKn i) 63 = 20 := zT_ (by decide) rfl
theorem zt_64 {i : Nat} : ztag (zKn i) 64 = 4 := zT_ (by decide) rfl
theorem zt_65 {i : Nat} : ztag (zKn i) 65 = 20 := zT_ (by decide) rfl
theorem zt_66 {i : Nat} : ztag (zKn i) 66 = 20 := zT_ (by decide) rfl
theorem zt_67 {i : Nat} : ztag (zKn i) 67 = 20 := zT_ (by decide) rfl
theorem zt_68 {i : Nat} : ztag (zKn i) 68 = 20 := zT_ (by decide) rfl
theorem zt_69 {i : Nat} : ztag (zKn i) 69 = 20 := zT_ (by decide) rfl
theorem zt_70 {i : Nat} : ztag (zKn i) 70 = 20 := zT_ (by decide) rfl
theorem zt_71 {i : Nat} : ztag (zKn i) 71 = 20 := zT_ (by decide) rfl
theorem zt_72 {i : Nat} : ztag (zKn i) 72 = 21 := zT_ (by decide) rfl
theorem zt_73 {i : Nat} : ztag (zKn i) 73 = 21 := zT_ (by decide) rfl
theorem zt_74 {i : Nat} : ztag (zKn i) 74 = 20 := zT_ (by decide) rfl
theorem zt_75 {i : Nat} : ztag (zKn i) 75 = 20 := zT_ (by decide) rfl
theorem zt_76 {i : Nat} : ztag (zKn i) 76 = 12 := zT_ (by decide) rfl
theorem zt_77 {i : Nat} : ztag (zKn i) 77 = 20 := zT_ (by decide) rfl
theorem zt_78 {i : Nat} : ztag (zKn i) 78 = 20 := zT_ (by decide) rfl
theorem zt_79 {i : Nat} : ztag (zKn i) 79 = 20 := zT_ (by decide) rfl
theorem zt_80 {i : Nat} : ztag (zKn i) 80 = 20 := zT_ (by decide) rfl
theorem zt_81 {i : Nat} : ztag (zKn i) 81 = 20 := zT_ (by decide) rfl
theorem zt_82 {i : Nat} : ztag (zKn i) 82 = 20 := zT_ (by decide) rfl
theorem zt_83 {i : Nat} : ztag (zKn i) 83 = 20 := zT_ (by decide) rfl
theorem zt_84 {i : Nat} : ztag (zKn i) 84 = 20 := zT_ (by decide) rfl
theorem zt_85 {i : Nat} : ztag (zKn i) 85 = 20 := zT_ (by decide) rfl
theorem zt_86 {i : Nat} : ztag (zKn i) 86 = 20 := zT_ (by decide) rfl
theorem zt_87 {i : Nat} : ztag (zKn i) 87 = 20 := zT_ (by decide) rfl
theorem zt_88 {i : Nat} : ztag (zKn i) 88 = 20 := zT_ (by decide) rfl
theorem zt_89 {i : Nat} : ztag (zKn i) 89 = 20 := zT_ (by decide) rfl
theorem zt_90 {i : Nat} : ztag (zKn i) 90 = 20 := zT_ (by decide) rfl
theorem zt_91 {i : Nat} : ztag (zKn i) 91 = 20 := zT_ (by decide) rfl
theorem zt_92 {i : Nat} : ztag (zKn i) 92 = 20 := zT_ (by decide) rfl
theorem zt_93 {i : Nat} : ztag (zKn i) 93 = 20 := zT_ (by decide) rfl
theorem zt_94 {i : Nat} : ztag (zKn i) 94 = 20 := zT_ (by decide) rfl
theorem zt_95 {i : Nat} : ztag (zKn i) 95 = 21 := zT_ (by decide) rfl
theorem zt_96 {i : Nat} : ztag (zKn i) 96 = 21 := zT_ (by decide) rfl
theorem zt_97 {i : Nat} : ztag (zKn i) 97 = 20 := zT_ (by decide) rfl
theorem zt_98 {i : Nat} : ztag (zKn i) 98 = 20 := zT_ (by decide) rfl
theorem zt_99 {i : Nat} : ztag (zKn i) 99 = 20 := zT_ (by decide) rfl
theorem zt_100 {i : Nat} : ztag (zKn i) 100 = 20 := zT_ (by decide) rfl
theorem zt_101 {i : Nat} : ztag (zKn i) 101 = 20 := zT_ (by decide) rfl
theorem zt_102 {i : Nat} : ztag (zKn i) 102 = 20 := zT_ (by decide) rfl
theorem zt_103 {i : Nat} : ztag (zKn i) 103 = 20 := zT_ (by decide) rfl
theorem zt_104 {i : Nat} : ztag (zKn i) 104 = 20 := zT_ (by decide) rfl
theorem zt_105 {i : Nat} : ztag (zKn i) 105 = 20 := zT_ (by decide) rfl
theorem zt_106 {i : Nat} : ztag (zKn i) 106 = 20 := zT_ (by decide) rfl
theorem zt_107 {i : Nat} : ztag (zKn i) 107 = 20 := zT_ (by decide) rfl
theorem zt_108 {i : Nat} : ztag (zKn i) 108 = 22 := zT_ (by decide) rfl
theorem zt_109 {i : Nat} : ztag (zKn i) 109 = 20 := zT_ (by decide) rfl
theorem zt_110 {i : Nat} : ztag (zKn i) 110 = 20 := zT_ (by decide) rfl
theorem zt_111 {i : Nat} : ztag (zKn i) 111 = 20 := zT_ (by decide) rfl
theorem zt_112 {i : Nat} : ztag (zKn i) 112 = 21 := zT_ (by decide) rfl
theorem zt_113 {i : Nat} : ztag (zKn i) 113 = 20 := zT_ (by decide) rfl
theorem zt_114 {i : Nat} : ztag (zKn i) 114 = 20 := zT_ (by decide) rfl
theorem zt_115 {i : Nat} : ztag (zKn i) 115 = 20 := zT_ (by decide) rfl
theorem zt_116 {i : Nat} : ztag (zKn i) 116 = 20 := zT_ (by decide) rfl
theorem zt_117 {i : Nat} : ztag (zKn i) 117 = 20 := zT_ (by decide) rfl
theorem zt_118 {i : Nat} : ztag (zKn i) 118 = 21 := zT_ (by decide) rfl
theorem zt_119 {i : Nat} : ztag (zKn i) 119 = 21 := zT_ (by decide) rfl
theorem zt_120 {i : Nat} : ztag (zKn i) 120 = 20 := zT_ (by decide) rfl
theorem zt_121 {i : Nat} : ztag (zKn i) 121 = 20 := zT_ (by decide) rfl
theorem zt_122 {i : Nat} : ztag (zKn i) 122 = 21 := zT_ (by decide) rfl
theorem zt_123 {i : Nat} : ztag (zKn i) 123 = 20 := zT_ (by decide) rfl
theorem zt_124 {i : Nat} : ztag (zKn i) 124 = 20 := zT_ (by decide) rfl
theorem zt_125 {i : Nat} : ztag (zKn i) 125 = 20 := zT_ (by decide) rfl
theorem zt_126 {i : Nat} : ztag (zKn i) 126 = 20 := zT_ (by decide) rfl
theorem zt_127 {i : Nat} : ztag (zKn i) 127 = 20 := zT_ (by decide) rfl
theorem zt_128 {i : Nat} : ztag (zKn i) 128 = 20 := zT_ (by decide) rfl
theorem zl_3 {i : Nat} : zlen (zKn i) 3 = 700 := zQl_ (by decide) rfl
theorem zl_5 {i : Nat} : zlen (zKn i) 5 = 256 := zQl_ (by decide) rfl
theorem zl_6 {i : Nat} : zlen (zKn i) 6 = 256 := zQl_ (by decide) rfl
theorem zl_7 {i : Nat} : zlen (zKn i) 7 = 16 := zQl_ (by decide) rfl
theorem zl_8 {i : Nat} : zlen (zKn i) 8 = 16 := zQl_ (by decide) rfl
theorem zl_9 {i : Nat} : zlen (zKn i) 9 = 60 := zQl_ (by decide) rfl
theorem zl_10 {i : Nat} : zlen (zKn i) 10 = 60 := zQl_ (by decide) rfl
theorem zl_11 {i : Nat} : zlen (zKn i) 11 = 60 := zQl_ (by decide) rfl
theorem zl_12 {i : Nat} : zlen (zKn i) 12 = 60 := zQl_ (by decide) rfl
theorem zl_13 {i : Nat} : zlen (zKn i) 13 = 10 := zQl_ (by decide) rfl
theorem zl_14 {i : Nat} : zlen (zKn i) 14 = 40 := zQl_ (by decide) rfl
theorem zl_15 {i : Nat} : zlen (zKn i) 15 = 40 := zQl_ (by decide) rfl
theorem zl_16 {i : Nat} : zlen (zKn i) 16 = 40 := zQl_ (by decide) rfl
theorem zl_17 {i : Nat} : zlen (zKn i) 17 = 40 := zQl_ (by decide) rfl
theorem zl_18 {i : Nat} : zlen (zKn i) 18 = 256 := zQl_ (by decide) rfl
theorem zl_19 {i : Nat} : zlen (zKn i) 19 = 256 := zQl_ (by decide) rfl
theorem zl_20 {i : Nat} : zlen (zKn i) 20 = 3 := zQl_ (by decide) rfl
theorem zl_22 {i : Nat} : zlen (zKn i) 22 = 256 := zQl_ (by decide) rfl
theorem zl_23 {i : Nat} : zlen (zKn i) 23 = 256 := zQl_ (by decide) rfl
theorem zl_25 {i : Nat} : zlen (zKn i) 25 = 256 := zQl_ (by decide) rfl
theorem zl_26 {i : Nat} : zlen (zKn i) 26 = 256 := zQl_ (by decide) rfl
theorem zl_27 {i : Nat} : zlen (zKn i) 27 = 256 := zQl_ (by decide) rfl
theorem zl_28 {i : Nat} : zlen (zKn i) 28 = 256 := zQl_ (by decide) rfl
theorem zl_29 {i : Nat} : zlen (zKn i) 29 = 256 := zQl_ (by decide) rfl
theorem zl_30 {i : Nat} : zlen (zKn i) 30 = 256 := zQl_ (by decide) rfl
theorem zl_31 {i : Nat} : zlen (zKn i) 31 = 256 := zQl_ (by decide) rfl
theorem zl_32 {i : Nat} : zlen (zKn i) 32 = 256 := zQl_ (by decide) rfl
theorem zl_33 {i : Nat} : zlen (zKn i) 33 = 256 := zQl_ (by decide) rfl
theorem zl_34 {i : Nat} : zlen (zKn i) 34 = 200 := zQl_ (by decide) rfl
theorem zl_35 {i : Nat} : zlen (zKn i) 35 = 8 := zQl_ (by decide) rfl
theorem zl_36 {i : Nat} : zlen (zKn i) 36 = 256 := zQl_ (by decide) rfl
theorem zl_37 {i : Nat} : zlen (zKn i) 37 = 8 := zQl_ (by decide) rfl
theorem zl_38 {i : Nat} : zlen (zKn i) 38 = 16 := zQl_ (by decide) rfl
theorem zl_40 {i : Nat} : zlen (zKn i) 40 = 100 := zQl_ (by decide) rfl
theorem zl_41 {i : Nat} : zlen (zKn i) 41 = 25600 := zQl_ (by decide) rfl
theorem zl_42 {i : Nat} : zlen (zKn i) 42 = 100 := zQl_ (by decide) rfl
theorem zl_44 {i : Nat} : zlen (zKn i) 44 = 256 := zQl_ (by decide) rfl
theorem zl_45 {i : Nat} : zlen (zKn i) 45 = 256 := zQl_ (by decide) rfl
theorem zl_47 {i : Nat} : zlen (zKn i) 47 = 10 := zQl_ (by decide) rfl
theorem zl_48 {i : Nat} : zlen (zKn i) 48 = 10 := zQl_ (by decide) rfl
theorem zl_49 {i : Nat} : zlen (zKn i) 49 = 70 := zQl_ (by decide) rfl
theorem zl_51 {i : Nat} : zlen (zKn i) 51 = 3 := zQl_ (by decide) rfl
theorem zl_53 {i : Nat} : zlen (zKn i) 53 = 40 := zQl_ (by decide) rfl
theorem zl_54 {i : Nat} : zlen (zKn i) 54 = 40 := zQl_ (by decide) rfl
theorem zl_55 {i : Nat} : zlen (zKn i) 55 = 40 := zQl_ (by decide) rfl
theorem zl_56 {i : Nat} : zlen (zKn i) 56 = 40 := zQl_ (by decide) rfl
theorem zl_57 {i : Nat} : zlen (zKn i) 57 = 700 := zQl_ (by decide) rfl
theorem zl_58 {i : Nat} : zlen (zKn i) 58 = 100 := zQl_ (by decide) rfl
theorem zl_59 {i : Nat} : zlen (zKn i) 59 = 100 := zQl_ (by decide) rfl
theorem zl_60 {i : Nat} : zlen (zKn i) 60 = 100 := zQl_ (by decide) rfl
theorem zl_61 {i : Nat} : zlen (zKn i) 61 = 100 := zQl_ (by decide) rfl
theorem zl_62 {i : Nat} : zlen (zKn i) 62 = 100 := zQl_ (by decide) rfl
theorem zl_63 {i : Nat} : zlen (zKn i) 63 = 3 := zQl_ (by decide) rfl
theorem zl_65 {i : Nat} : zlen (zKn i) 65 = 40 := zQl_ (by decide) rfl
theorem zl_66 {i : Nat} : zlen (zKn i) 66 = 40 := zQl_ (by decide) rfl
theorem zl_67 {i : Nat} : zlen (zKn i) 67 = 40 := zQl_ (by decide) rfl
theorem zl_68 {i : Nat} : zlen (zKn i) 68 = 40 := zQl_ (by decide) rfl
theorem zl_69 {i : Nat} : zlen (zKn i) 69 = 700 := zQl_ (by decide) rfl
theorem zl_70 {i : Nat} : zlen (zKn i) 70 = 100 := zQl_ (by decide) rfl
theorem zl_71 {i : Nat} : zlen (zKn i) 71 = 100 := zQl_ (by decide) rfl
theorem zl_72 {i : Nat} : zlen (zKn i) 72 = 100 := zQl_ (by decide) rfl
theorem zl_73 {i : Nat} : zlen (zKn i) 73 = 100 := zQl_ (by decide) rfl
theorem zl_74 {i : Nat} : zlen (zKn i) 74 = 100 := zQl_ (by decide) rfl
theorem zl_75 {i : Nat} : zlen (zKn i) 75 = 3 := zQl_ (by decide) rfl
theorem zl_77 {i : Nat} : zlen (zKn i) 77 = 3 := zQl_ (by decide) rfl
theorem zl_78 {i : Nat} : zlen (zKn i) 78 = 4 := zQl_ (by decide) rfl
theorem zl_79 {i : Nat} : zlen (zKn i) 79 = 4 := zQl_ (by decide) rfl
theorem zl_80 {i : Nat} : zlen (zKn i) 80 = 4 := zQl_ (by decide) rfl
theorem zl_81 {i : Nat} : zlen (zKn i) 81 = 4 := zQl_ (by decide) rfl
theorem zl_82 {i : Nat} : zlen (zKn i) 82 = 1024 := zQl_ (by decide) rfl
theorem zl_83 {i : Nat} : zlen (zKn i) 83 = 1024 := zQl_ (by decide) rfl
theorem zl_84 {i : Nat} : zlen (zKn i) 84 = 1024 := zQl_ (by decide) rfl
theorem zl_85 {i : Nat} : zlen (zKn i) 85 = 1024 := zQl_ (by decide) rfl
theorem zl_86 {i : Nat} : zlen (zKn i) 86 = 320 := zQl_ (by decide) rfl
theorem zl_87 {i : Nat} : zlen (zKn i) 87 = 240 := zQl_ (by decide) rfl
theorem zl_88 {i : Nat} : zlen (zKn i) 88 = 240 := zQl_ (by decide) rfl
theorem zl_89 {i : Nat} : zlen (zKn i) 89 = 240 := zQl_ (by decide) rfl
theorem zl_90 {i : Nat} : zlen (zKn i) 90 = 240 := zQl_ (by decide) rfl
theorem zl_91 {i : Nat} : zlen (zKn i) 91 = 40 := zQl_ (by decide) rfl
theorem zl_92 {i : Nat} : zlen (zKn i) 92 = 160 := zQl_ (by decide) rfl
theorem zl_93 {i : Nat} : zlen (zKn i) 93 = 160 := zQl_ (by decide) rfl
theorem zl_94 {i : Nat} : zlen (zKn i) 94 = 160 := zQl_ (by decide) rfl
theorem zl_95 {i : Nat} : zlen (zKn i) 95 = 320 := zQl_ (by decide) rfl
theorem zl_96 {i : Nat} : zlen (zKn i) 96 = 160 := zQl_ (by decide) rfl
theorem zl_97 {i : Nat} : zlen (zKn i) 97 = 2 := zQl_ (by decide) rfl
theorem zl_98 {i : Nat} : zlen (zKn i) 98 = 80 := zQl_ (by decide) rfl
theorem zl_99 {i : Nat} : zlen (zKn i) 99 = 80 := zQl_ (by decide) rfl
theorem zl_100 {i : Nat} : zlen (zKn i) 100 = 80 := zQl_ (by decide) rfl
theorem zl_101 {i : Nat} : zlen (zKn i) 101 = 80 := zQl_ (by decide) rfl
theorem zl_102 {i : Nat} : zlen (zKn i) 102 = 80 := zQl_ (by decide) rfl
theorem zl_103 {i : Nat} : zlen (zKn i) 103 = 80 := zQl_ (by decide) rfl
theorem zl_104 {i : Nat} : zlen (zKn i) 104 = 2000 := zQl_ (by decide) rfl
theorem zl_105 {i : Nat} : zlen (zKn i) 105 = 2000 := zQl_ (by decide) rfl
theorem zl_106 {i : Nat} : zlen (zKn i) 106 = 2000 := zQl_ (by decide) rfl
theorem zl_107 {i : Nat} : zlen (zKn i) 107 = 2000 := zQl_ (by decide) rfl
theorem zl_108 {i : Nat} : zlen (zKn i) 108 = 700 := zQl_ (by decide) rfl
theorem zl_109 {i : Nat} : zlen (zKn i) 109 = 12 := zQl_ (by decide) rfl
theorem zl_110 {i : Nat} : zlen (zKn i) 110 = 12 := zQl_ (by decide) rfl
theorem zl_111 {i : Nat} : zlen (zKn i) 111 = 7 := zQl_ (by decide) rfl
theorem zl_112 {i : Nat} : zlen (zKn i) 112 = 300 := zQl_ (by decide) rfl
theorem zl_113 {i : Nat} : zlen (zKn i) 113 = 256 := zQl_ (by decide) rfl
theorem zl_114 {i : Nat} : zlen (zKn i) 114 = 256 := zQl_ (by decide) rfl
theorem zl_115 {i : Nat} : zlen (zKn i) 115 = 256 := zQl_ (by decide) rfl
theorem zl_116 {i : Nat} : zlen (zKn i) 116 = 256 := zQl_ (by decide) rfl
theorem zl_117 {i : Nat} : zlen (zKn i) 117 = 256 := zQl_ (by decide) rfl
theorem zl_118 {i : Nat} : zlen (zKn i) 118 = 256 := zQl_ (by decide) rfl
theorem zl_119 {i : Nat} : zlen (zKn i) 119 = 256 := zQl_ (by decide) rfl
theorem zl_120 {i : Nat} : zlen (zKn i) 120 = 256 := zQl_ (by decide) rfl
theorem zl_121 {i : Nat} : zlen (zKn i) 121 = 256 := zQl_ (by decide) rfl
theorem zl_122 {i : Nat} : zlen (zKn i) 122 = 256 := zQl_ (by decide) rfl
theorem zl_123 {i : Nat} : zlen (zKn i) 123 = 10 := zQl_ (by decide) rfl
theorem zl_124 {i : Nat} : zlen (zKn i) 124 = 10 := zQl_ (by decide) rfl
theorem zl_125 {i : Nat} : zlen (zKn i) 125 = 10 := zQl_ (by decide) rfl
theorem zl_126 {i : Nat} : zlen (zKn i) 126 = 256 := zQl_ (by decide) rfl
theorem zl_127 {i : Nat} : zlen (zKn i) 127 = 16 := zQl_ (by decide) rfl
theorem zl_128 {i : Nat} : zlen (zKn i) 128 = 16 := zQl_ (by decide) rfl
def gb_X2_countHigherRound_68 (k : zK) (l1 : Int) (l2 : Int) (l3 : Int) (l4 : Int) (l6 : Int) (M0 : zM) (y5 : Int) (y7 : Int) : Option ((Int × Int) ⊕ (Int)) :=
  zbr y7 (l6 + l3) (l6 + l3 < y7) (some (.inr y5)) (zgd (0 ≤ y7 ∧ y7 < 256) (zbr (M0 28 y7.toNat) l4 (M0 28 y7.toNat ≤ l4) (zlt (y5 + 0) (fun x9 => zlt (y7 + 1) (fun x10 => some (.inl (x9, x10))))) (zlt (y5 + 1) (fun x11 => zlt (y7 + 1) (fun x12 => some (.inl (x11, x12)))))))
theorem eb_X2_countHigherRound_68 {i : Nat} : fb_X2_countHigherRound_68 (zKn i) 24 = gb_X2_countHigherRound_68 (zKn i) := by
  funext l1 l2 l3 l4 l6 M0 y5 y7
  simp only [fb_X2_countHigherRound_68, gb_X2_countHigherRound_68, Int.cast_ofNat_Int, zq_24_3]
def gb_X2_countHigherRound_45 (k : zK) (l1 : Int) (l2 : Int) (l3 : Int) (l4 : Int) (M0 : zM) (y5 : Int) (y6 : Int) : Option ((Int × Int) ⊕ (Int)) :=
  zbr y6 (l1 + 16) (l1 + 16 < y6) (some (.inr y5)) (zb1 (f_X10_isCell k y6 M0) (fun v5 => zbr v5 0 (v5 = 0) (zlt (y6 + 16) (fun x7 => some (.inl (y5, x7)))) (zlt (y6 - l2) (fun x8 => zb1 (zw2 (gb_X2_countHigherRound_68 k l1 l2 l3 l4 y6 M0) zfu y5 x8) (fun x13 => zlt (y6 + 16) (fun x14 => some (.inl (x13, x14))))))))
theorem eb_X2_countHigherRound_45 {i : Nat} : fb_X2_countHigherRound_45 (zKn i) 24 = gb_X2_countHigherRound_45 (zKn i) := by
  funext l1 l2 l3 l4 M0 y5 y6
  simp only [fb_X2_countHigherRound_45, gb_X2_countHigherRound_45, Int.cast_ofNat_Int, eb_X2_countHigherRound_68]
def g_X2_countHigherRound (k : zK) (p1 : Int) (M0 : zM) : Option Int :=
  zgd (0 ≤ p1 ∧ p1 ≤ 2147483647) (zb1 (zbr (p1 % 16) 0 (¬ p1 % 16 = 0) (some (1)) (some (0))) (fun x1 => zgd (0 ≤ p1 ∧ p1 ≤ 2147483647) (zb1 (zbr (p1 % 16) 15 (¬ p1 % 16 = 15) (some (1)) (some (0))) (fun x2 => zgd (0 ≤ p1 ∧ p1 < 256) (zlt (M0 28 p1.toNat) (fun x3 => zlt (p1 - 16) (fun x4 => zb1 (zw2 (gb_X2_countHigherRound_45 k p1 x1 x2 x3 M0) zfu 0 x4) (fun x15 => some x15))))))))
theorem e_X2_countHigherRound {i : Nat} : f_X2_countHigherRound (zKn i) 24 = g_X2_countHigherRound (zKn i) := by
  funext p1 M0
  simp only [f_X2_countHigherRound, g_X2_countHigherRound, Int.cast_ofNat_Int, zq_24_3, eb_X2_countHigherRound_45]
def gb_X2_lowestBeside_12 (k : zK) (l1 : Int) (M0 : zM) (y2 : Int) (y3 : Int) (y4 : Int) : Option ((Int × Int × Int) ⊕ (Int)) :=
  zbr y4 4 (4 ≤ y4) (some (.inr y2)) (zb1 (f_X10_beside k l1 y4 M0) (fun v2 => zbr v2 (-1) (v2 = (-1)) (zlt (y4 + 1) (fun x4 => some (.inl (y2, y3, x4)))) (zgd (0 ≤ v2 ∧ v2 < 256) (zbr (M0 28 v2.toNat) y3 (y3 ≤ M0 28 v2.toNat) (zlt (y4 + 1) (fun x5 => some (.inl (y2, y3, x5)))) (zgd (0 ≤ v2 ∧ v2 < 256) (zlt (M0 28 v2.toNat) (fun x6 => zlt (y4 + 1) (fun x7 => some (.inl (v2, x6, x7))))))))))
theorem eb_X2_lowestBeside_12 {i : Nat} : fb_X2_lowestBeside_12 (zKn i) 24 = gb_X2_lowestBeside_12 (zKn i) := by
  funext l1 M0 y2 y3 y4
  simp only [fb_X2_lowestBeside_12, gb_X2_lowestBeside_12, Int.cast_ofNat_Int, zq_24_3]
def g_X2_lowestBeside (k : zK) (p1 : Int) (M0 : zM) : Option Int :=
  zgd (0 ≤ p1 ∧ p1 < 256) (zlt (M0 28 p1.toNat) (fun x1 => zb1 (zw3 (gb_X2_lowestBeside_12 k p1 M0) zfu (-1) x1 0) (fun x8 => some x8)))
theorem e_X2_lowestBeside {i : Nat} : f_X2_lowestBeside (zKn i) 24 = g_X2_lowestBeside (zKn i) := by
  funext p1 M0
  simp only [f_X2_lowestBeside, g_X2_lowestBeside, Int.cast_ofNat_Int, zq_24_3, eb_X2_lowestBeside_12]
def gb_X2_runWater_12 (k : zK) (y1 : Int) (M0 : zM) : Option ((Int × zM) ⊕ (zM)) :=
  zbr y1 0 (y1 < 0) (some (.inr M0)) (zgd (0 ≤ y1 ∧ y1 < 256) (zlt (M0 33 y1.toNat) (fun x2 => zgd (0 ≤ x2 ∧ x2 < 256) (zgd (zr (M0 30 x2.toNat) ∧ zr 99) (zgd (0 ≤ x2 ∧ x2 < 256) (zlt (zst M0 30 x2.toNat (zmin (M0 30 x2.toNat) 99)) (fun M3 => zgd (0 ≤ x2 ∧ x2 < 256) (zbr (M3 29 x2.toNat) (-1) (M3 29 x2.toNat = (-1)) (zlt (y1 + (-1)) (fun x4 => some (.inl (x4, M3)))) (zgd (0 ≤ x2 ∧ x2 < 256) (zgd (0 ≤ M3 29 x2.toNat ∧ M3 29 x2.toNat < 256) (zgd (0 ≤ x2 ∧ x2 < 256) (zgd (0 ≤ M3 29 x2.toNat ∧ M3 29 x2.toNat < 256) (zlt (zst M3 30 (M3 29 x2.toNat).toNat ((M3 30 (M3 29 x2.toNat).toNat) + (M3 30 x2.toNat))) (fun M5 => zlt (y1 + (-1)) (fun x6 => some (.inl (x6, M5)))))))))))))))))
theorem eb_X2_runWater_12 {i : Nat} : fb_X2_runWater_12 (zKn i) 24 = gb_X2_runWater_12 (zKn i) := by
  funext y1 M0
  simp only [fb_X2_runWater_12, gb_X2_runWater_12, Int.cast_ofNat_Int, zq_24_4, zq_24_5, zq_24_8]
def gb_X2_runWater_78 (k : zK) (y1 : Int) (M0 : zM) : Option ((Int × zM) ⊕ (zM)) :=
  zbr y1 256 (256 ≤ y1) (some (.inr M0)) (zgd (0 ≤ y1 ∧ y1 < 256) (zlt (M0 33 y1.toNat) (fun x8 => zgd (0 ≤ x8 ∧ x8 < 256) (zbr (M0 29 x8.toNat) (-1) (¬ M0 29 x8.toNat = (-1)) (zgd (0 ≤ x8 ∧ x8 < 256) (zgd (0 ≤ M0 29 x8.toNat ∧ M0 29 x8.toNat < 256) (zgd (0 ≤ x8 ∧ x8 < 256) (zlt (zst M0 32 x8.toNat (M0 32 (M0 29 x8.toNat).toNat)) (fun M9 => zlt (y1 + 1) (fun x10 => some (.inl (x10, M9)))))))) (zgd (0 ≤ x8 ∧ x8 < 256) (zlt (zst M0 32 x8.toNat (x8)) (fun M11 => zlt (y1 + 1) (fun x12 => some (.inl (x12, M11))))))))))
theorem eb_X2_runWater_78 {i : Nat} : fb_X2_runWater_78 (zKn i) 24 = gb_X2_runWater_78 (zKn i) := by
  funext y1 M0
  simp only [fb_X2_runWater_78, gb_X2_runWater_78, Int.cast_ofNat_Int, zq_24_4, zq_24_7, zq_24_8]
def g_X2_runWater (k : zK) (M0 : zM) : Option zM :=
  zb1 (f_J7_fill_53178 k 30 1 M0) (fun M1 => zb1 (zw2 (gb_X2_runWater_12 k) zfu 255 M1) (fun M7 => zb1 (zw2 (gb_X2_runWater_78 k) zfu 0 M7) (fun M13 => some M13)))
theorem e_X2_runWater {i : Nat} : f_X2_runWater (zKn i) 24 = g_X2_runWater (zKn i) := by
  funext M0
  simp only [f_X2_runWater, g_X2_runWater, Int.cast_ofNat_Int, zq_24_5, eb_X2_runWater_12, eb_X2_runWater_78]
def gb_X2_sortByMiddle_10 (k : zK) (y1 : Int) (M0 : zM) : Option ((Int × zM) ⊕ (zM)) :=
  zbr y1 256 (256 ≤ y1) (some (.inr M0)) (zgd (0 ≤ y1 ∧ y1 < 256) (zgd (0 ≤ (M0 28 y1.toNat) + 1 ∧ (M0 28 y1.toNat) + 1 < 200) (zgd (0 ≤ (M0 28 y1.toNat) + 1 ∧ (M0 28 y1.toNat) + 1 < 200) (zlt (zst M0 34 ((M0 28 y1.toNat) + 1).toNat ((M0 34 ((M0 28 y1.toNat) + 1).toNat) + 1)) (fun M2 => zlt (y1 + 1) (fun x3 => some (.inl (x3, M2))))))))
theorem eb_X2_sortByMiddle_10 {i : Nat} : fb_X2_sortByMiddle_10 (zKn i) 24 = gb_X2_sortByMiddle_10 (zKn i) := by
  funext y1 M0
  simp only [fb_X2_sortByMiddle_10, gb_X2_sortByMiddle_10, Int.cast_ofNat_Int, zq_24_3, zq_24_9]
def gb_X2_sortByMiddle_42 (k : zK) (y1 : Int) (M0 : zM) : Option ((Int × zM) ⊕ (zM)) :=
  zbr y1 199 (199 ≤ y1) (some (.inr M0)) (zgd (0 ≤ y1 + 1 ∧ y1 + 1 < 200) (zgd (0 ≤ y1 ∧ y1 < 200) (zgd (0 ≤ y1 + 1 ∧ y1 + 1 < 200) (zlt (zst M0 34 (y1 + 1).toNat ((M0 34 (y1 + 1).toNat) + (M0 34 y1.toNat))) (fun M5 => zlt (y1 + 1) (fun x6 => some (.inl (x6, M5))))))))
theorem eb_X2_sortByMiddle_42 {i : Nat} : fb_X2_sortByMiddle_42 (zKn i) 24 = gb_X2_sortByMiddle_42 (zKn i) := by
  funext y1 M0
  simp only [fb_X2_sortByMiddle_42, gb_X2_sortByMiddle_42, Int.cast_ofNat_Int, zq_24_9]
def gb_X2_sortByMiddle_74 (k : zK) (y1 : Int) (M0 : zM) : Option ((Int × zM) ⊕ (zM)) :=
  zbr y1 256 (256 ≤ y1) (some (.inr M0)) (zgd (0 ≤ y1 ∧ y1 < 256) (zgd (0 ≤ M0 28 y1.toNat ∧ M0 28 y1.toNat < 200) (zgd (0 ≤ M0 34 (M0 28 y1.toNat).toNat ∧ M0 34 (M0 28 y1.toNat).toNat < 256) (zlt (zst M0 33 (M0 34 (M0 28 y1.toNat).toNat).toNat (y1)) (fun M8 => zgd (0 ≤ y1 ∧ y1 < 256) (zgd (0 ≤ M8 28 y1.toNat ∧ M8 28 y1.toNat < 200) (zgd (0 ≤ M8 28 y1.toNat ∧ M8 28 y1.toNat < 200) (zlt (zst M8 34 (M8 28 y1.toNat).toNat ((M8 34 (M8 28 y1.toNat).toNat) + 1)) (fun M9 => zlt (y1 + 1) (fun x10 => some (.inl (x10, M9))))))))))))
theorem eb_X2_sortByMiddle_74 {i : Nat} : fb_X2_sortByMiddle_74 (zKn i) 24 = gb_X2_sortByMiddle_74 (zKn i) := by
  funext y1 M0
  simp only [fb_X2_sortByMiddle_74, gb_X2_sortByMiddle_74, Int.cast_ofNat_Int, zq_24_3, zq_24_8, zq_24_9]
def g_X2_sortByMiddle (k : zK) (M0 : zM) : Option zM :=
  zb1 (f_J7_fill_53178 k 34 0 M0) (fun M1 => zb1 (zw2 (gb_X2_sortByMiddle_10 k) zfu 0 M1) (fun M4 => zb1 (zw2 (gb_X2_sortByMiddle_42 k) zfu 0 M4) (fun M7 => zb1 (zw2 (gb_X2_sortByMiddle_74 k) zfu 0 M7) (fun M11 => some M11))))
theorem e_X2_sortByMiddle {i : Nat} : f_X2_sortByMiddle (zKn i) 24 = g_X2_sortByMiddle (zKn i) := by
  funext M0
  simp only [f_X2_sortByMiddle, g_X2_sortByMiddle, Int.cast_ofNat_Int, zq_24_9, eb_X2_sortByMiddle_10, eb_X2_sortByMiddle_42, eb_X2_sortByMiddle_74]
def gb_X2_survey_2 (k : zK) (l2 : Nat) (y3 : Int) (M0 : zM) : Option ((Int × zM) ⊕ (zM)) :=
  zbr y3 256 (256 ≤ y3) (some (.inr M0)) (zgd (0 ≤ y3 ∧ y3 ≤ 2147483647) (zgd (0 ≤ (0 : Int) ∧ (0 : Int) < 8) (zlt (zst M0 35 (Int.toNat 0) (y3 % 16)) (fun M1 => zgd (0 ≤ y3 ∧ y3 ≤ 2147483647) (zgd (0 ≤ (1 : Int) ∧ (1 : Int) < 8) (zlt (zst M1 35 (Int.toNat 1) (y3 / 16)) (fun M2 => zb1 (f_X3_first k l2 1 35 0 M2) (fun v3 => zgd (0 ≤ y3 ∧ y3 < 256) (zlt (zst M2 25 y3.toNat (v3)) (fun M5 => zgd (0 ≤ y3 ∧ y3 < 256) (zgd (0 ≤ y3 ∧ y3 < 256) (zgd (zr 99 ∧ zr ((M5 5 y3.toNat) + (M5 25 y3.toNat))) (zgd (0 ≤ y3 ∧ y3 < 256) (zlt (zst M5 26 y3.toNat (zmin 99 ((M5 5 y3.toNat) + (M5 25 y3.toNat)))) (fun M6 => zgd (0 ≤ y3 ∧ y3 < 256) (zgd (0 ≤ y3 ∧ y3 < 256) (zgd (zr 99 ∧ zr ((M6 18 y3.toNat) + (M6 25 y3.toNat))) (zgd (0 ≤ y3 ∧ y3 < 256) (zlt (zst M6 27 y3.toNat (zmin 99 ((M6 18 y3.toNat) + (M6 25 y3.toNat)))) (fun M7 => zgd (0 ≤ y3 ∧ y3 < 256) (zgd (0 ≤ y3 ∧ y3 < 256) (zgd (0 ≤ y3 ∧ y3 < 256) (zlt (zst M7 28 y3.toNat ((M7 26 y3.toNat) + (M7 27 y3.toNat))) (fun M8 => zlt (y3 + 1) (fun x9 => some (.inl (x9, M8)))))))))))))))))))))))))))
theorem eb_X2_survey_2 {i : Nat} : fb_X2_survey_2 (zKn i) 24 4 = gb_X2_survey_2 (zKn i) := by
  funext l2 y3 M0
  simp only [fb_X2_survey_2, gb_X2_survey_2, Int.cast_ofNat_Int, zq_4_0, zq_4_1, zq_24_0, zq_24_1, zq_24_2, zq_24_3, zq_24_10]
def gb_X2_survey_120 (k : zK) (y3 : Int) (M0 : zM) : Option ((Int × zM) ⊕ (zM)) :=
  zbr y3 256 (256 ≤ y3) (some (.inr M0)) (zb1 (g_X2_lowestBeside k y3 M0) (fun v11 => zgd (0 ≤ y3 ∧ y3 < 256) (zlt (zst M0 29 y3.toNat (v11)) (fun M13 => zb1 (g_X2_countHigherRound k y3 M13) (fun v14 => zgd (0 ≤ y3 ∧ y3 < 256) (zlt (zst M13 31 y3.toNat (v14)) (fun M16 => zlt (y3 + 1) (fun x17 => some (.inl (x17, M16))))))))))
theorem eb_X2_survey_120 {i : Nat} : fb_X2_survey_120 (zKn i) 24 = gb_X2_survey_120 (zKn i) := by
  funext y3 M0
  simp only [fb_X2_survey_120, gb_X2_survey_120, Int.cast_ofNat_Int, zq_24_4, zq_24_6, e_X2_countHigherRound, e_X2_lowestBeside]
def g_X2_survey (k : zK) (p2 : Nat) (M0 : zM) : Option zM :=
  zb1 (zw2 (gb_X2_survey_2 k p2) zfu 0 M0) (fun M10 => zb1 (zw2 (gb_X2_survey_120 k) zfu 0 M10) (fun M18 => zb1 (g_X2_sortByMiddle k M18) (fun M19 => zb1 (g_X2_runWater k M19) (fun M20 => some M20))))
theorem e_X2_survey {i : Nat} : f_X2_survey (zKn i) 24 4 = g_X2_survey (zKn i) := by
  funext p2 M0
  simp only [f_X2_survey, g_X2_survey, Int.cast_ofNat_Int, e_X2_runWater, e_X2_sortByMiddle, eb_X2_survey_120, eb_X2_survey_2]
def g_X4_forget (k : zK) (M0 : zM) : Option zM :=
  zb1 (f_J7_fill_53178 k 40 (-1) M0) (fun M1 => some M1)
theorem e_X4_forget {i : Nat} : f_X4_forget (zKn i) 39 = g_X4_forget (zKn i) := by
  funext M0
  simp only [f_X4_forget, g_X4_forget, Int.cast_ofNat_Int, zq_39_0]
def g_X8_forget (k : zK) (M0 : zM) : Option zM :=
  zlt (zst M0 21 6 (-1)) (fun M1 => some M1)
theorem e_X8_forget {i : Nat} : f_X8_forget (zKn i) 21 = g_X8_forget (zKn i) := by
  funext M0
  simp only [f_X8_forget, g_X8_forget, Int.cast_ofNat_Int]
def g_X10_settle (k : zK) (M0 : zM) : Option zM :=
  zbr (M0 1 14) 0 (M0 1 14 = 0) (some M0) (zgd (ztag k (M0 1 10).toNat = 4 ∧ (M0 1 10).toNat ≠ 0) (zlt (M0 1 10).toNat (fun q1 => zb1 (g_X2_survey k q1 M0) (fun M3 => zb1 (g_X8_forget k M3) (fun M4 => zb1 (g_X4_forget k M4) (fun M5 => zgd ((0 : Int) = 0 ∨ (0 : Int) = 1) (zlt (zst M5 1 14 0) (fun M6 => some M6))))))))
theorem e_X10_settle {i : Nat} : f_X10_settle (zKn i) 1 = g_X10_settle (zKn i) := by
  funext M0
  simp only [f_X10_settle, g_X10_settle, Int.cast_ofNat_Int, zq_1_1, zq_1_3, zq_1_4, zq_1_5, e_X2_survey, e_X4_forget, e_X8_forget]
def g_X8_heightOf (k : zK) (p1 : Int) (M0 : zM) : Option Int :=
  zgd (0 ≤ p1 ∧ p1 < 256) (zbr (M0 22 p1.toNat) 0 (M0 22 p1.toNat = 0) (some 0) (zgd (0 ≤ p1 ∧ p1 < 256) (zgd (0 ≤ (M0 28 p1.toNat) - (M0 21 6) ∧ (M0 28 p1.toNat) - (M0 21 6) ≤ 2147483647) (some (((M0 28 p1.toNat) - (M0 21 6)) / 2)))))
theorem e_X8_heightOf {i : Nat} : f_X8_heightOf (zKn i) 21 = g_X8_heightOf (zKn i) := by
  funext p1 M0
  simp only [f_X8_heightOf, g_X8_heightOf, Int.cast_ofNat_Int, zq_21_0, zq_21_2, zq_24_3]
def g_X8_wordsOf (k : zK) (p1 : Int) (p2 : Int) (M0 : zM) : Option (zM × Int) :=
  zgd (0 ≤ p1 ∧ p1 ≤ 2147483647) (zgd (0 ≤ (0 : Int) ∧ (0 : Int) < 8) (zlt (zst M0 37 (Int.toNat 0) (p1 % 16)) (fun M1 => zgd (0 ≤ p1 ∧ p1 ≤ 2147483647) (zgd (0 ≤ (1 : Int) ∧ (1 : Int) < 8) (zlt (zst M1 37 (Int.toNat 1) (p1 / 16)) (fun M2 => zgd (0 ≤ (2 : Int) ∧ (2 : Int) < 8) (zlt (zst M2 37 (Int.toNat 2) (p2)) (fun M3 => zb1 (g_X8_heightOf k p1 M3) (fun v4 => zgd (0 ≤ (3 : Int) ∧ (3 : Int) < 8) (zlt (zst M3 37 (Int.toNat 3) (v4)) (fun M6 => zgd (0 ≤ p1 ∧ p1 < 256) (zgd (0 ≤ (4 : Int) ∧ (4 : Int) < 8) (zlt (zst M6 37 (Int.toNat 4) (M6 30 p1.toNat)) (fun M7 => zgd (0 ≤ p1 ∧ p1 < 256) (zgd (0 ≤ (5 : Int) ∧ (5 : Int) < 8) (zlt (zst M7 37 (Int.toNat 5) (M7 23 p1.toNat)) (fun M8 => zgd (0 ≤ p1 ∧ p1 < 256) (zgd (0 ≤ (6 : Int) ∧ (6 : Int) < 8) (zlt (zst M8 37 (Int.toNat 6) (M8 31 p1.toNat)) (fun M9 => some (M9, (37 : Int))))))))))))))))))))))
theorem e_X8_wordsOf {i : Nat} : f_X8_wordsOf (zKn i) 21 = g_X8_wordsOf (zKn i) := by
  funext p1 p2 M0
  simp only [f_X8_wordsOf, g_X8_wordsOf, Int.cast_ofNat_Int, zq_21_1, zq_21_2, zq_21_4, zq_24_5, zq_24_6, e_X8_heightOf]
def gb_X4_workOut_6 (k : zK) (l1 : Int) (l2 : Nat) (y4 : Int) (y5 : Int) (M0 : zM) : Option ((Int × Int × zM) ⊕ (Int × zM)) :=
  zbr y5 256 (256 ≤ y5) (some (.inr (y4, M0))) (zgd (0 ≤ y5 ∧ y5 < 256) (zb2 (zbr (M0 22 y5.toNat) 0 (M0 22 y5.toNat = 0) (some (0, M0)) (zbd (g_X8_wordsOf k y5 l1 M0) (fun M2 v1 => zgd (ztag k v1.toNat = 20 ∧ ((zlen k v1.toNat : Nat) : Int) = 8) (zb1 (f_X3_first k l2 2 (v1.toNat) 0 M2) (fun v4 => some (v4, M2)))))) (fun x6 M7 => zgd (0 ≤ (l1 * 256) + y5 ∧ (l1 * 256) + y5 < 25600) (zlt (zst M7 41 ((l1 * 256) + y5).toNat (zo_i2b (zo_i2b x6))) (fun M8 => zlt (y4 + x6) (fun x9 => zlt (y5 + 1) (fun x10 => some (.inl (x9, x10, M8)))))))))
theorem eb_X4_workOut_6 {i : Nat} {l1 : Int} {l2 : Nat} : fb_X4_workOut_6 (zKn i) 39 l1 l2 21 = gb_X4_workOut_6 (zKn i) l1 l2 := by
  funext y4 y5 M0
  simp only [fb_X4_workOut_6, gb_X4_workOut_6, Int.cast_ofNat_Int, zq_21_0, zq_39_1, e_X8_wordsOf]
def g_X4_workOut (k : zK) (p1 : Int) (p2 : Nat) (M0 : zM) : Option zM :=
  zb2 (zw3 (gb_X4_workOut_6 k p1 p2) zfu 0 0 M0) (fun x11 M12 => zgd (0 ≤ p1 ∧ p1 < 100) (zlt (zst M12 40 p1.toNat (x11)) (fun M13 => some M13)))
theorem e_X4_workOut {i : Nat} {p1 : Int} {p2 : Nat} : f_X4_workOut (zKn i) 39 p1 p2 21 = g_X4_workOut (zKn i) p1 p2 := by
  funext M0
  simp only [f_X4_workOut, g_X4_workOut, Int.cast_ofNat_Int, zq_39_0, eb_X4_workOut_6]
def gb_X8_stepInland_27 (k : zK) (l3 : Int) (l4 : Int) (y2 : Int) (y5 : Int) (M0 : zM) : Option ((Int × Int × zM) ⊕ (Int × zM)) :=
  zbr y5 4 (4 ≤ y5) (some (.inr (y2, M0))) (zb1 (f_X10_beside k l4 y5 M0) (fun v2 => zbr v2 (-1) (v2 = (-1)) (zlt (y5 + 1) (fun x4 => some (.inl (y2, x4, M0)))) (zgd (0 ≤ v2 ∧ v2 < 256) (zbr (M0 23 v2.toNat) 99 (¬ M0 23 v2.toNat = 99) (zlt (y5 + 1) (fun x5 => some (.inl (y2, x5, M0)))) (zbr y2 256 (256 ≤ y2) (zlt (y5 + 1) (fun x6 => some (.inl (y2, x6, M0)))) (zgd (0 ≤ l4 ∧ l4 < 256) (zgd (0 ≤ v2 ∧ v2 < 256) (zlt (zst M0 23 v2.toNat ((M0 23 l4.toNat) + 1)) (fun M7 => zgd (0 ≤ y2 ∧ y2 < 256) (zlt (zst M7 36 y2.toNat (v2)) (fun M8 => zlt (y2 + 1) (fun x9 => zlt (y5 + 1) (fun x10 => some (.inl (x9, x10, M8)))))))))))))))
theorem eb_X8_stepInland_27 {i : Nat} : fb_X8_stepInland_27 (zKn i) 21 = gb_X8_stepInland_27 (zKn i) := by
  funext l3 l4 y2 y5 M0
  simp only [fb_X8_stepInland_27, gb_X8_stepInland_27, Int.cast_ofNat_Int, zq_21_1, zq_21_3]
def gb_X8_stepInland_4 (k : zK) (y2 : Int) (y3 : Int) (M0 : zM) : Option ((Int × Int × zM) ⊕ (zM)) :=
  zbr y3 y2 (y2 ≤ y3) (some (.inr M0)) (zbr y3 256 (256 ≤ y3) (some (.inr M0)) (zgd (0 ≤ y3 ∧ y3 < 256) (zlt (M0 36 y3.toNat) (fun x1 => zb2 (zw3 (gb_X8_stepInland_27 k y3 x1) zfu y2 0 M0) (fun x11 M12 => zlt (y3 + 1) (fun x13 => some (.inl (x11, x13, M12))))))))
theorem eb_X8_stepInland_4 {i : Nat} : fb_X8_stepInland_4 (zKn i) 21 = gb_X8_stepInland_4 (zKn i) := by
  funext y2 y3 M0
  simp only [fb_X8_stepInland_4, gb_X8_stepInland_4, Int.cast_ofNat_Int, zq_21_3, eb_X8_stepInland_27]
def g_X8_stepInland (k : zK) (p1 : Int) (M0 : zM) : Option zM :=
  zb1 (zw3 (gb_X8_stepInland_4 k) zfu p1 0 M0) (fun M14 => some M14)
theorem e_X8_stepInland {i : Nat} : f_X8_stepInland (zKn i) 21 = g_X8_stepInland (zKn i) := by
  funext p1 M0
  simp only [f_X8_stepInland, g_X8_stepInland, Int.cast_ofNat_Int, eb_X8_stepInland_4]
def gb_X8_turnTo_18 (k : zK) (y2 : Int) (y3 : Int) (M0 : zM) : Option ((Int × Int × zM) ⊕ (Int × zM)) :=
  zbr y3 256 (256 ≤ y3) (some (.inr (y2, M0))) (zgd (0 ≤ y3 ∧ y3 < 256) (zb1 (zbr (M0 28 y3.toNat) (M0 21 6) (M0 28 y3.toNat ≤ M0 21 6) (some (0)) (some (1))) (fun x2 => zgd ((x2 = 0 ∨ x2 = 1) ∧ 0 ≤ y3 ∧ y3 < 256) (zlt (zst M0 22 y3.toNat (x2)) (fun M3 => zgd (0 ≤ y3 ∧ y3 < 256) (zlt (zst M3 23 y3.toNat (99)) (fun M4 => zgd (0 ≤ y3 ∧ y3 < 256) (zbr (M4 22 y3.toNat) 0 (¬ M4 22 y3.toNat = 0) (zlt (y3 + 1) (fun x5 => some (.inl (y2, x5, M4)))) (zgd (0 ≤ y3 ∧ y3 < 256) (zlt (zst M4 23 y3.toNat (0)) (fun M6 => zgd (0 ≤ y2 ∧ y2 < 256) (zlt (zst M6 36 y2.toNat (y3)) (fun M7 => zlt (y2 + 1) (fun x8 => zlt (y3 + 1) (fun x9 => some (.inl (x8, x9, M7)))))))))))))))))
theorem eb_X8_turnTo_18 {i : Nat} : fb_X8_turnTo_18 (zKn i) 21 = gb_X8_turnTo_18 (zKn i) := by
  funext y2 y3 M0
  simp only [fb_X8_turnTo_18, gb_X8_turnTo_18, Int.cast_ofNat_Int, zq_21_0, zq_21_1, zq_21_2, zq_21_3, zq_24_3]
def g_X8_turnTo (k : zK) (p1 : Int) (M0 : zM) : Option zM :=
  zbr p1 (M0 21 6) (¬ p1 = M0 21 6) (zlt (zst M0 21 6 p1) (fun M1 => zb2 (zw3 (gb_X8_turnTo_18 k) zfu 0 0 M1) (fun x10 M11 => zb1 (g_X8_stepInland k x10 M11) (fun M12 => some M12)))) (some M0)
theorem e_X8_turnTo {i : Nat} : f_X8_turnTo (zKn i) 21 = g_X8_turnTo (zKn i) := by
  funext p1 M0
  simp only [f_X8_turnTo, g_X8_turnTo, Int.cast_ofNat_Int, e_X8_stepInland, eb_X8_turnTo_18]
def g_X10_spanKnown (k : zK) (p1 : Int) (M0 : zM) : Option (zM × Int) :=
  zgd (ztag k (M0 1 10).toNat = 4 ∧ (M0 1 10).toNat ≠ 0) (zlt (M0 1 10).toNat (fun q1 => zgd (0 ≤ p1 ∧ p1 < 100) (zlt (M0 (zfr k q1 12) p1.toNat) (fun x3 => zgd (0 ≤ x3 ∧ x3 < 100) (zbr (M0 40 x3.toNat) (-1) (¬ M0 40 x3.toNat = (-1)) (some (M0, x3)) (zgd (ztag k (M0 1 10).toNat = 4 ∧ (M0 1 10).toNat ≠ 0) (zlt (M0 1 10).toNat (fun q4 => zb1 (f_X3_bothLevels k q4 x3 M0) (fun v6 => zb1 (g_X8_turnTo k v6 M0) (fun M8 => zgd (ztag k (M8 1 10).toNat = 4 ∧ (M8 1 10).toNat ≠ 0) (zlt (M8 1 10).toNat (fun q9 => zb1 (g_X4_workOut k x3 q9 M8) (fun M11 => some (M11, x3))))))))))))))
theorem e_X10_spanKnown {i : Nat} : f_X10_spanKnown (zKn i) 1 = g_X10_spanKnown (zKn i) := by
  funext p1 M0
  simp only [f_X10_spanKnown, g_X10_spanKnown, Int.cast_ofNat_Int, zq_1_3, zq_1_5, zq_39_0, e_X4_workOut, e_X8_turnTo]
def g_X4_of (k : zK) (p1 : Int) (p2 : Int) (M0 : zM) : Option Int :=
  zgd (0 ≤ (p1 * 256) + p2 ∧ (p1 * 256) + p2 < 25600) (some (M0 41 ((p1 * 256) + p2).toNat))
theorem e_X4_of {i : Nat} : f_X4_of (zKn i) 39 = g_X4_of (zKn i) := by
  funext p1 p2 M0
  simp only [f_X4_of, g_X4_of, Int.cast_ofNat_Int, zq_39_1]
def gb_X4_ranked_10 (k : zK) (l1 : Int) (l2 : Int) (y3 : Int) (M0 : zM) : Option ((Int × zM) ⊕ (zM)) :=
  zbr y3 256 (256 ≤ y3) (some (.inr M0)) (zb1 (g_X4_of k l1 y3 M0) (fun v2 => zgd (0 ≤ v2 ∧ v2 < 100) (zgd (0 ≤ v2 ∧ v2 < 100) (zlt (zst M0 42 v2.toNat ((M0 42 v2.toNat) + 1)) (fun M4 => zlt (y3 + 1) (fun x5 => some (.inl (x5, M4))))))))
theorem eb_X4_ranked_10 {i : Nat} : fb_X4_ranked_10 (zKn i) 39 = gb_X4_ranked_10 (zKn i) := by
  funext l1 l2 y3 M0
  simp only [fb_X4_ranked_10, gb_X4_ranked_10, Int.cast_ofNat_Int, zq_39_2, e_X4_of]
def gb_X4_ranked_44 (k : zK) (l1 : Int) (M0 : zM) (y3 : Int) (y4 : Int) : Option ((Int × Int) ⊕ (Int × Int)) :=
  zbr y3 0 (y3 ≤ 0) (some (.inr (y3, y4))) (zgd (0 ≤ y3 ∧ y3 < 100) (zbr (M0 42 y3.toNat) y4 (y4 < M0 42 y3.toNat) (some (.inr (y3, y4))) (zgd (0 ≤ y3 ∧ y3 < 100) (zlt (y4 - (M0 42 y3.toNat)) (fun x7 => zlt (y3 + (-1)) (fun x8 => some (.inl (x8, x7))))))))
theorem eb_X4_ranked_44 {i : Nat} : fb_X4_ranked_44 (zKn i) 39 = gb_X4_ranked_44 (zKn i) := by
  funext l1 M0 y3 y4
  simp only [fb_X4_ranked_44, gb_X4_ranked_44, Int.cast_ofNat_Int, zq_39_2]
def gb_X4_ranked_79 (k : zK) (l1 : Int) (l3 : Int) (M0 : zM) (y4 : Int) (y5 : Int) : Option ((Int × Int) ⊕ ((Unit) ⊕ (zM × Int))) :=
  zbr y5 256 (256 ≤ y5) (some (.inr (.inl ()))) (zb1 (g_X4_of k l1 y5 M0) (fun v11 => zbr v11 l3 (¬ v11 = l3) (zlt (y5 + 1) (fun x13 => some (.inl (y4, x13)))) (zbr y4 0 (¬ y4 = 0) (zlt (y4 + (-1)) (fun x14 => zlt (y5 + 1) (fun x15 => some (.inl (x14, x15))))) (some (.inr (.inr (M0, y5)))))))
theorem eb_X4_ranked_79 {i : Nat} : fb_X4_ranked_79 (zKn i) 39 = gb_X4_ranked_79 (zKn i) := by
  funext l1 l3 M0 y4 y5
  simp only [fb_X4_ranked_79, gb_X4_ranked_79, Int.cast_ofNat_Int, e_X4_of]
def g_X4_ranked (k : zK) (p1 : Int) (p2 : Int) (M0 : zM) : Option (zM × Int) :=
  zb1 (f_J7_fill_53178 k 42 0 M0) (fun M1 => zb1 (zw2 (gb_X4_ranked_10 k p1 p2) zfu 0 M1) (fun M6 => zb2 (zw2 (gb_X4_ranked_44 k p1 M6) zfu 99 p2) (fun x9 x10 => zsp0 (zw2 (gb_X4_ranked_79 k p1 x9 M6) zfu x10 0) (fun r => some (r)) (some (M6, (-1))))))
theorem e_X4_ranked {i : Nat} : f_X4_ranked (zKn i) 39 = g_X4_ranked (zKn i) := by
  funext p1 p2 M0
  simp only [f_X4_ranked, g_X4_ranked, Int.cast_ofNat_Int, zq_39_2, eb_X4_ranked_10, eb_X4_ranked_44, eb_X4_ranked_79]
def g_X10_ahead (k : zK) (p1 : Int) (p2 : Int) (M0 : zM) : Option (zM × Int) :=
  zb1 (f_X10_isAge k p1 M0) (fun v1 => zbr v1 0 (v1 = 0) (some (M0, (-1))) (zbr p2 0 (p2 < 0) (some (M0, (-1))) (zbr p2 256 (p2 < 256) (zb1 (g_X10_settle k M0) (fun M3 => zbd (g_X10_spanKnown k p1 M3) (fun M5 v4 => zbd (g_X4_ranked k v4 p2 M5) (fun M7 v6 => some (M7, v6))))) (some (M0, (-1))))))
theorem e_X10_ahead {i : Nat} : f_X10_ahead (zKn i) 1 = g_X10_ahead (zKn i) := by
  funext p1 p2 M0
  simp only [f_X10_ahead, g_X10_ahead, Int.cast_ofNat_Int, zq_1_5, e_X10_settle, e_X10_spanKnown, e_X4_ranked]
def gb_X1_spread_44 (k : zK) (l3 : Int) (y2 : Int) (y4 : Int) (M0 : zM) : Option ((Int × Int × zM) ⊕ (Int × zM)) :=
  zbr y4 4 (4 ≤ y4) (some (.inr (y2, M0))) (zgd (0 ≤ l3 ∧ l3 < 256) (zb1 (f_X10_beside k (M0 45 l3.toNat) y4 M0) (fun v3 => zbr v3 (-1) (v3 = (-1)) (zlt (y4 + 1) (fun x5 => some (.inl (y2, x5, M0)))) (zgd (0 ≤ v3 ∧ v3 < 256) (zbr (M0 44 v3.toNat) 0 (M0 44 v3.toNat = 0) (zlt (y4 + 1) (fun x6 => some (.inl (y2, x6, M0)))) (zbr y2 256 (256 ≤ y2) (zlt (y4 + 1) (fun x7 => some (.inl (y2, x7, M0)))) (zgd (((0 : Int) = 0 ∨ (0 : Int) = 1) ∧ 0 ≤ v3 ∧ v3 < 256) (zlt (zst M0 44 v3.toNat (0)) (fun M8 => zgd (0 ≤ y2 ∧ y2 < 256) (zlt (zst M8 45 y2.toNat (v3)) (fun M9 => zlt (y2 + 1) (fun x10 => zlt (y4 + 1) (fun x11 => some (.inl (x10, x11, M9)))))))))))))))
theorem eb_X1_spread_44 {i : Nat} : fb_X1_spread_44 (zKn i) 43 = gb_X1_spread_44 (zKn i) := by
  funext l3 y2 y4 M0
  simp only [fb_X1_spread_44, gb_X1_spread_44, Int.cast_ofNat_Int, zq_43_0, zq_43_1]
def gb_X1_spread_29 (k : zK) (y2 : Int) (y3 : Int) (M0 : zM) : Option ((Int × Int × zM) ⊕ (Int × zM)) :=
  zbr y3 y2 (y2 ≤ y3) (some (.inr (y2, M0))) (zbr y3 256 (256 ≤ y3) (some (.inr (y2, M0))) (zb2 (zw3 (gb_X1_spread_44 k y3) zfu y2 0 M0) (fun x12 M13 => zlt (y3 + 1) (fun x14 => some (.inl (x12, x14, M13))))))
theorem eb_X1_spread_29 {i : Nat} : fb_X1_spread_29 (zKn i) 43 = gb_X1_spread_29 (zKn i) := by
  funext y2 y3 M0
  simp only [fb_X1_spread_29, gb_X1_spread_29, Int.cast_ofNat_Int, eb_X1_spread_44]
def g_X1_spread (k : zK) (p1 : Int) (M0 : zM) : Option (zM × Int) :=
  zgd (0 ≤ p1 ∧ p1 < 256) (zbr (M0 44 p1.toNat) 0 (¬ M0 44 p1.toNat = 0) (zgd (((0 : Int) = 0 ∨ (0 : Int) = 1) ∧ 0 ≤ p1 ∧ p1 < 256) (zlt (zst M0 44 p1.toNat (0)) (fun M1 => zgd (0 ≤ (0 : Int) ∧ (0 : Int) < 256) (zlt (zst M1 45 (Int.toNat 0) (p1)) (fun M2 => zb2 (zw3 (gb_X1_spread_29 k) zfu 1 0 M2) (fun x15 M16 => some (M16, x15))))))) (some (M0, 0)))
theorem e_X1_spread {i : Nat} : f_X1_spread (zKn i) 43 = g_X1_spread (zKn i) := by
  funext p1 M0
  simp only [f_X1_spread, g_X1_spread, Int.cast_ofNat_Int, zq_43_0, zq_43_1, eb_X1_spread_29]
def gb_X10_islandOf_17 (k : zK) (l1 : Int) (l2 : Int) (y3 : Int) (M0 : zM) : Option ((Int × zM) ⊕ (zM)) :=
  zbr y3 256 (256 ≤ y3) (some (.inr M0)) (zgd (0 ≤ y3 ∧ y3 < 256) (zbr (M0 28 y3.toNat) l2 (M0 28 y3.toNat ≤ l2) (zgd (((0 : Int) = 0 ∨ (0 : Int) = 1) ∧ 0 ≤ y3 ∧ y3 < 256) (zlt (zst M0 44 y3.toNat (0)) (fun M1 => zlt (y3 + 1) (fun x2 => some (.inl (x2, M1)))))) (zgd (((1 : Int) = 0 ∨ (1 : Int) = 1) ∧ 0 ≤ y3 ∧ y3 < 256) (zlt (zst M0 44 y3.toNat (1)) (fun M3 => zlt (y3 + 1) (fun x4 => some (.inl (x4, M3))))))))
theorem eb_X10_islandOf_17 {i : Nat} : fb_X10_islandOf_17 (zKn i) 1 = gb_X10_islandOf_17 (zKn i) := by
  funext l1 l2 y3 M0
  simp only [fb_X10_islandOf_17, gb_X10_islandOf_17, Int.cast_ofNat_Int, zq_1_4, zq_1_6, zq_24_3, zq_43_0]
def g_X10_islandOf (k : zK) (p1 : Int) (p2 : Int) (M0 : zM) : Option (zM × Int) :=
  zgd (0 ≤ p1 ∧ p1 < 256) (zbr (M0 28 p1.toNat) p2 (p2 < M0 28 p1.toNat) (zb1 (zw2 (gb_X10_islandOf_17 k p1 p2) zfu 0 M0) (fun M5 => zbd (g_X1_spread k p1 M5) (fun M7 v6 => some (M7, v6)))) (some (M0, 0)))
theorem e_X10_islandOf {i : Nat} : f_X10_islandOf (zKn i) 1 = g_X10_islandOf (zKn i) := by
  funext p1 p2 M0
  simp only [f_X10_islandOf, g_X10_islandOf, Int.cast_ofNat_Int, zq_1_4, zq_1_6, zq_24_3, e_X1_spread, eb_X10_islandOf_17]
def gb_X10_alone_47 (k : zK) (l1 : Int) (l2 : Int) (l3 : Int) (y4 : Int) (y5 : Int) (y6 : Int) (y7 : Int) (y8 : Int) (M0 : zM) : Option ((Int × Int × Int × Int × Int × zM) ⊕ (Int × Int × zM)) :=
  zbr y8 100 (100 ≤ y8) (some (.inr (y4, y5, M0))) (zgd (ztag k (M0 1 10).toNat = 4 ∧ (M0 1 10).toNat ≠ 0) (zlt (M0 1 10).toNat (fun q6 => zb1 (f_X3_bothLevels k q6 y8 M0) (fun v8 => zsp4 (zbr y8 0 (y8 = 0) (some (.inl (y4, y5, y6, y8))) (zgd (ztag k (M0 1 10).toNat = 4 ∧ (M0 1 10).toNat ≠ 0) (zlt (M0 1 10).toNat (fun q10 => zb1 (f_X3_bothLevels k q10 (y8 - 1) M0) (fun v12 => zbr v8 v12 (v8 = v12) (zsp3 (zbr y7 1 (y7 < 1) (some (.inl (y4, y5, y8))) (zbr y7 l2 (l2 < y7) (some (.inl (y4, y5, y8))) (zlt (y6 + 1) (fun x14 => zbr x14 y4 (x14 ≤ y4) (zlt (y8 + 1) (fun x15 => some (.inr (.inr (.inl (y4, y5, x14, y7, x15, M0)))))) (zlt ((y8 - x14) + 1) (fun x16 => zlt (y8 + 1) (fun x17 => some (.inr (.inr (.inl (x14, x16, x14, y7, x17, M0))))))))))) (fun r => some r) (fun x18 x19 x20 => zbr 0 x18 ((0 : Int) ≤ x18) (zlt (x20 + 1) (fun x21 => some (.inr (.inl (x18, x19, 0, y7, x21, M0))))) (zlt ((x20 - 0) + 1) (fun x22 => zlt (x20 + 1) (fun x23 => some (.inr (.inl (0, x22, 0, y7, x23, M0)))))))) (some (.inl (y4, y5, y6, y8)))))))) (fun r => some r) (fun x24 x25 x26 x27 => zbd (g_X10_islandOf k l1 v8 M0) (fun M29 v28 => zsp3 (zbr v28 1 (v28 < 1) (some (.inl (x24, x25, x27))) (zbr v28 l2 (l2 < v28) (some (.inl (x24, x25, x27))) (zlt (x26 + 1) (fun x30 => zbr x30 x24 (x30 ≤ x24) (zlt (x27 + 1) (fun x31 => some (.inr (.inl (x24, x25, x30, v28, x31, M29))))) (zlt ((x27 - x30) + 1) (fun x32 => zlt (x27 + 1) (fun x33 => some (.inr (.inl (x30, x32, x30, v28, x33, M29)))))))))) (fun r => some r) (fun x34 x35 x36 => zbr 0 x34 ((0 : Int) ≤ x34) (zlt (x36 + 1) (fun x37 => some (.inl (x34, x35, 0, v28, x37, M29)))) (zlt ((x36 - 0) + 1) (fun x38 => zlt (x36 + 1) (fun x39 => some (.inl (0, x38, 0, v28, x39, M29))))))))))))
theorem eb_X10_alone_47 {i : Nat} : fb_X10_alone_47 (zKn i) 1 = gb_X10_alone_47 (zKn i) := by
  funext l1 l2 l3 y4 y5 y6 y7 y8 M0
  simp only [fb_X10_alone_47, gb_X10_alone_47, Int.cast_ofNat_Int, e_X10_islandOf]
def g_X10_alone (k : zK) (p1 : Int) (p2 : Int) (p3 : Int) (M0 : zM) : Option (zM × Int) :=
  zb1 (f_X10_isCell k p1 M0) (fun v1 => zbr v1 0 (v1 = 0) (some (M0, (-1))) (zbr p2 1 (p2 < 1) (some (M0, (-1))) (zbr p2 256 (256 < p2) (some (M0, (-1))) (zb1 (f_X10_isPart k p3 M0) (fun v3 => zbr v3 0 (¬ v3 = 0) (zb1 (g_X10_settle k M0) (fun M5 => zb3 (zw6 (gb_X10_alone_47 k p1 p2 p3) zfu 0 (-1) 0 0 0 M5) (fun x40 x41 M42 => zbr p3 0 (¬ p3 = 0) (some (M42, x41)) (some (M42, x40))))) (some (M0, (-1))))))))
theorem e_X10_alone {i : Nat} : f_X10_alone (zKn i) 1 = g_X10_alone (zKn i) := by
  funext p1 p2 p3 M0
  simp only [f_X10_alone, g_X10_alone, Int.cast_ofNat_Int, e_X10_settle, eb_X10_alone_47]
def g_X10_viewAt (k : zK) (p1 : Int) (M0 : zM) : Option (zM × Int) :=
  zb1 (g_X10_settle k M0) (fun M1 => zgd (ztag k (M1 1 10).toNat = 4 ∧ (M1 1 10).toNat ≠ 0) (zlt (M1 1 10).toNat (fun q2 => zb1 (f_X3_bothLevels k q2 p1 M1) (fun v4 => zb1 (g_X8_turnTo k v4 M1) (fun M6 => some (M6, (21 : Int)))))))
theorem e_X10_viewAt {i : Nat} : f_X10_viewAt (zKn i) 1 = g_X10_viewAt (zKn i) := by
  funext p1 M0
  simp only [f_X10_viewAt, g_X10_viewAt, Int.cast_ofNat_Int, zq_1_3, e_X10_settle, e_X8_turnTo]
def g_X8_kindOf (k : zK) (p1 : Int) (M0 : zM) : Option Int :=
  zgd (0 ≤ p1 ∧ p1 < 256) (zb1 (zbr (M0 30 p1.toNat) 9 (M0 30 p1.toNat ≤ 9) (some (0)) (some (1))) (fun x1 => zgd (0 ≤ p1 ∧ p1 < 256) (zb1 (zbr (M0 23 p1.toNat) 3 (3 ≤ M0 23 p1.toNat) (some (0)) (some (2))) (fun x2 => zlt (x1 + x2) (fun x3 => zgd (0 ≤ p1 ∧ p1 < 256) (zb1 (zbr (M0 31 p1.toNat) 3 (M0 31 p1.toNat ≤ 3) (some (0)) (some (4))) (fun x4 => zlt (x3 + x4) (fun x5 => zb1 (g_X8_heightOf k p1 M0) (fun v6 => zbr v6 20 (20 ≤ v6) (zlt (x5 + 0) (fun x8 => some x8)) (zlt (x5 + 8) (fun x9 => some x9)))))))))))
theorem e_X8_kindOf {i : Nat} : f_X8_kindOf (zKn i) 21 = g_X8_kindOf (zKn i) := by
  funext p1 M0
  simp only [f_X8_kindOf, g_X8_kindOf, Int.cast_ofNat_Int, zq_21_1, zq_21_2, zq_24_5, zq_24_6, e_X8_heightOf]
def g_X10_asked (k : zK) (p1 : Int) (p2 : Int) (p3 : Int) (M0 : zM) : Option (zM × Int) :=
  zb1 (f_X10_isCell k p1 M0) (fun v1 => zbr v1 0 (v1 = 0) (some (M0, (-1))) (zb1 (f_X10_isAge k p2 M0) (fun v3 => zbr v3 0 (¬ v3 = 0) (zbd (g_X10_viewAt k p2 M0) (fun M6 v5 => zgd (ztag k v5.toNat = 9) (zgd (zr p3) (if p3 = 0 then (zgd (0 ≤ p1 ∧ p1 < 256) (zbr (M6 (zfr k (v5.toNat) 0) p1.toNat) 0 (M6 (zfr k (v5.toNat) 0) p1.toNat = 0) (some (M6, 0)) (some (M6, 1)))) else (if p3 = 1 then (zb1 (f_X8_heightOf k (v5.toNat) p1 M6) (fun v13 => some (M6, v13))) else (if p3 = 2 then (zgd (0 ≤ p1 ∧ p1 < 256) (some (M6, M6 (zfr k (v5.toNat) 1) p1.toNat))) else (if p3 = 3 then (zgd (0 ≤ p1 ∧ p1 < 256) (some (M6, M6 31 p1.toNat))) else (if p3 = 4 then (zgd (ztag k (M6 1 10).toNat = 4 ∧ (M6 1 10).toNat ≠ 0) (zlt (M6 1 10).toNat (fun q21 => zb1 (f_X3_bothLevels k q21 p2 M6) (fun v23 => zbd (g_X10_islandOf k p1 v23 M6) (fun M26 v25 => some (M26, v25)))))) else (if p3 = 5 then (zgd (0 ≤ p1 ∧ p1 < 256) (zbr (M6 (zfr k (v5.toNat) 0) p1.toNat) 0 (M6 (zfr k (v5.toNat) 0) p1.toNat = 0) (some (M6, 0)) (zgd (ztag k (M6 1 10).toNat = 4 ∧ (M6 1 10).toNat ≠ 0) (zlt (M6 1 10).toNat (fun q29 => zbd (f_X8_wordsOf k (v5.toNat) p1 p2 M6) (fun M32 v31 => zgd (ztag k v31.toNat = 20 ∧ ((zlen k v31.toNat : Nat) : Int) = 8) (zb1 (f_X3_first k q29 2 (v31.toNat) 0 M32) (fun v34 => some (M32, v34))))))))) else (if p3 = 6 then (zgd (ztag k (M6 1 10).toNat = 4 ∧ (M6 1 10).toNat ≠ 0) (zlt (M6 1 10).toNat (fun q38 => zbd (f_X8_wordsOf k (v5.toNat) p1 p2 M6) (fun M41 v40 => zgd (ztag k v40.toNat = 20 ∧ ((zlen k v40.toNat : Nat) : Int) = 8) (zb1 (f_X3_first k q38 3 (v40.toNat) 0 M41) (fun v43 => some (M41, v43))))))) else (if p3 = 7 then (zgd (ztag k (M6 1 10).toNat = 4 ∧ (M6 1 10).toNat ≠ 0) (zlt (M6 1 10).toNat (fun q47 => zbd (f_X8_wordsOf k (v5.toNat) p1 p2 M6) (fun M50 v49 => zgd (ztag k v49.toNat = 20 ∧ ((zlen k v49.toNat : Nat) : Int) = 8) (zb1 (f_X3_first k q47 4 (v49.toNat) 100 M50) (fun v52 => some (M50, v52))))))) else (if p3 = 8 then (zb1 (f_X8_kindOf k (v5.toNat) p1 M6) (fun v56 => some (M6, v56))) else (some (M6, (-1))))))))))))))) (some (M0, (-1))))))
theorem e_X10_asked {i : Nat} : f_X10_asked (zKn i) 1 = g_X10_asked (zKn i) := by
  funext p1 p2 p3 M0
  simp only [f_X10_asked, g_X10_asked, Int.cast_ofNat_Int, zq_1_4, zq_24_6, e_X10_islandOf, e_X10_viewAt]
def g_X10_refuse (k : zK) (p1 : Int) (M0 : zM) : Option (zM × Int) :=
  zgd (0 ≤ p1 ∧ p1 < 3) (zgd (0 ≤ p1 ∧ p1 < 3) (zlt (zst M0 51 p1.toNat ((M0 51 p1.toNat) + 1)) (fun M1 => some (M1, (-1)))))
theorem e_X10_refuse {i : Nat} : f_X10_refuse (zKn i) 1 = g_X10_refuse (zKn i) := by
  funext p1 M0
  simp only [f_X10_refuse, g_X10_refuse, Int.cast_ofNat_Int, zq_1_9]
def g_X9_forget (k : zK) (M0 : zM) : Option zM :=
  zlt (zst M0 46 6 (-1)) (fun M1 => some M1)
theorem e_X9_forget {i : Nat} : f_X9_forget (zKn i) 46 = g_X9_forget (zKn i) := by
  funext M0
  simp only [f_X9_forget, g_X9_forget, Int.cast_ofNat_Int]
def g_X10_bucket (k : zK) (p1 : Int) (p2 : Int) (M0 : zM) : Option (zM × Int) :=
  zb1 (f_X10_isCell k p1 M0) (fun v1 => zsp1 (zbr v1 0 (v1 = 0) (some (.inl M0)) (zbr p2 1 (p2 < 1) (some (.inl M0)) (zbr p2 8 (p2 ≤ 8) (zgd (0 ≤ p1 ∧ p1 < 256) (zbr ((M0 6 p1.toNat) + p2) 8 ((M0 6 p1.toNat) + p2 ≤ 8) (zgd (0 ≤ p1 ∧ p1 < 256) (zgd (0 ≤ p1 ∧ p1 < 256) (zlt (zst M0 6 p1.toNat ((M0 6 p1.toNat) + p2)) (fun M3 => zb1 (g_X9_forget k M3) (fun M4 => zgd (0 ≤ p1 ∧ p1 < 256) (some (.inr (M4, M4 6 p1.toNat)))))))) (zbd (g_X10_refuse k 1 M0) (fun M6 v5 => some (.inr (M6, v5)))))) (some (.inl M0))))) (fun r => some r) (fun M7 => zbd (g_X10_refuse k 0 M7) (fun M9 v8 => some (M9, v8))))
theorem e_X10_bucket {i : Nat} : f_X10_bucket (zKn i) 1 = g_X10_bucket (zKn i) := by
  funext p1 p2 M0
  simp only [f_X10_bucket, g_X10_bucket, Int.cast_ofNat_Int, zq_1_1, zq_1_7, zq_4_2, e_X10_refuse, e_X9_forget]
def gb_X10_sumLives_5 (k : zK) (l2 : Int) (y3 : Int) (y5 : Int) (M0 : zM) : Option ((Int × Int × zM) ⊕ (Int × zM)) :=
  zbr y5 l2 (l2 < y5) (some (.inr (y3, M0))) (zbd (g_X10_spanKnown k y5 M0) (fun M2 v1 => zgd (0 ≤ v1 ∧ v1 < 100) (zgd (zr (M2 40 v1.toNat)) (zlt (y3 + (M2 40 v1.toNat)) (fun x3 => zlt (y5 + 1) (fun x4 => some (.inl (x3, x4, M2))))))))
theorem eb_X10_sumLives_5 {i : Nat} : fb_X10_sumLives_5 (zKn i) 1 = gb_X10_sumLives_5 (zKn i) := by
  funext l2 y3 y5 M0
  simp only [fb_X10_sumLives_5, gb_X10_sumLives_5, Int.cast_ofNat_Int, zq_1_5, zq_39_0, e_X10_spanKnown]
def g_X10_sumLives (k : zK) (p1 : Int) (p2 : Int) (M0 : zM) : Option (zM × Int) :=
  zb2 (zw3 (gb_X10_sumLives_5 k p2) zfu 0 p1 M0) (fun x5 M6 => some (M6, x5))
theorem e_X10_sumLives {i : Nat} : f_X10_sumLives (zKn i) 1 = g_X10_sumLives (zKn i) := by
  funext p1 p2 M0
  simp only [f_X10_sumLives, g_X10_sumLives, Int.cast_ofNat_Int, eb_X10_sumLives_5]
def gb_X10_sumLivesIn_6 (k : zK) (l1 : Int) (l3 : Int) (y4 : Int) (y6 : Int) (M0 : zM) : Option ((Int × Int × zM) ⊕ (Int × zM)) :=
  zbr y6 l3 (l3 < y6) (some (.inr (y4, M0))) (zbd (g_X10_spanKnown k y6 M0) (fun M2 v1 => zb1 (g_X4_of k v1 l1 M2) (fun v3 => zgd (zr v3) (zlt (y4 + v3) (fun x5 => zlt (y6 + 1) (fun x6 => some (.inl (x5, x6, M2))))))))
theorem eb_X10_sumLivesIn_6 {i : Nat} : fb_X10_sumLivesIn_6 (zKn i) 1 = gb_X10_sumLivesIn_6 (zKn i) := by
  funext l1 l3 y4 y6 M0
  simp only [fb_X10_sumLivesIn_6, gb_X10_sumLivesIn_6, Int.cast_ofNat_Int, zq_1_5, e_X10_spanKnown, e_X4_of]
def g_X10_sumLivesIn (k : zK) (p1 : Int) (p2 : Int) (p3 : Int) (M0 : zM) : Option (zM × Int) :=
  zb2 (zw3 (gb_X10_sumLivesIn_6 k p1 p3) zfu 0 p2 M0) (fun x7 M8 => some (M8, x7))
theorem e_X10_sumLivesIn {i : Nat} : f_X10_sumLivesIn (zKn i) 1 = g_X10_sumLivesIn (zKn i) := by
  funext p1 p2 p3 M0
  simp only [f_X10_sumLivesIn, g_X10_sumLivesIn, Int.cast_ofNat_Int, eb_X10_sumLivesIn_6]
def g_X5_part (k : zK) (p1 : Int) (M0 : zM) : Option Int :=
  zbr p1 0 (¬ p1 = 0) (some (M0 50 1)) (some (M0 50 0))
theorem e_X5_part {i : Nat} : f_X5_part (zKn i) 50 = g_X5_part (zKn i) := by
  funext p1 M0
  simp only [f_X5_part, g_X5_part, Int.cast_ofNat_Int]
def gb_X5_put_9 (k : zK) (l1 : Int) (l3 : Int) (M0 : zM) (y5 : Int) (y7 : Int) (y9 : Int) : Option ((Int × Int × Int) ⊕ (Int)) :=
  zbr y9 200 (200 ≤ y9) (some (.inr y5)) (zbl y7 0 (y7 = 0) (some (.inr y5)) (zgd ((0 ≤ y5 ∧ y5 ≤ 9223372036854775807) ∧ 0 < y7 ∧ y7 ≤ 9223372036854775807) (zlt (y5 % y7) (fun x1 => zlt (y9 + 1) (fun x2 => some (.inl (y7, x1, x2)))))))
theorem eb_X5_put_9 {i : Nat} : fb_X5_put_9 (zKn i) 50 = gb_X5_put_9 (zKn i) := by
  funext l1 l3 M0 y5 y7 y9
  simp only [fb_X5_put_9, gb_X5_put_9, Int.cast_ofNat_Int]
def g_X5_put (k : zK) (p1 : Int) (p3 : Int) (M0 : zM) : Option zM :=
  zb1 (zw3 (gb_X5_put_9 k p1 p3 M0) zfu p1 p3 0) (fun x3 => zb1 (zbl x3 0 (¬ x3 = 0) (some (x3)) (some (1))) (fun x4 => zgd ((0 ≤ p1 ∧ p1 ≤ 9223372036854775807) ∧ 0 < x4 ∧ x4 ≤ 9223372036854775807) (zlt (zst M0 50 0 (p1 / x4)) (fun M5 => zbl p3 0 (¬ p3 = 0) (zgd ((0 ≤ p3 ∧ p3 ≤ 9223372036854775807) ∧ 0 < x4 ∧ x4 ≤ 9223372036854775807) (zlt (zst M5 50 1 (p3 / x4)) (fun M6 => some M6))) (zlt (zst M5 50 1 1) (fun M7 => some M7))))))
theorem e_X5_put {i : Nat} : f_X5_put (zKn i) 50 = g_X5_put (zKn i) := by
  funext p1 p3 M0
  simp only [f_X5_put, g_X5_put, Int.cast_ofNat_Int, eb_X5_put_9]
def g_X10_carried (k : zK) (p1 : Int) (p2 : Int) (M0 : zM) : Option (zM × Int) :=
  zbr p1 0 (p1 < 0) (some (M0, (-1))) (zbr p1 (M0 4 17) (M0 4 17 ≤ p1) (some (M0, (-1))) (zbr p1 60 (60 ≤ p1) (some (M0, (-1))) (zb1 (f_X10_isPart k p2 M0) (fun v1 => zbr v1 0 (¬ v1 = 0) (zb1 (g_X10_settle k M0) (fun M3 => zgd (0 ≤ p1 ∧ p1 < 60) (zlt (M3 11 p1.toNat) (fun x4 => zgd (0 ≤ p1 ∧ p1 < 60) (zlt (M3 12 p1.toNat) (fun x5 => zgd (ztag k (M3 1 10).toNat = 4 ∧ (M3 1 10).toNat ≠ 0) (zlt (M3 1 10).toNat (fun q6 => zgd (0 ≤ p1 ∧ p1 < 60) (zgd (0 ≤ M3 10 p1.toNat ∧ M3 10 p1.toNat < 3) (zgd (zr (M3 (zfr k q6 14) (M3 10 p1.toNat).toNat)) (zlt (M3 (zfr k q6 14) (M3 10 p1.toNat).toNat) (fun x8 => zbd (g_X10_sumLives k x4 x5 M3) (fun M10 v9 => zlt (x8 * v9) (fun x11 => zgd (0 ≤ p1 ∧ p1 < 60) (zbd (g_X10_sumLivesIn k (M10 9 p1.toNat) x4 x5 M10) (fun M13 v12 => zlt (((100 - x8) * 256) * v12) (fun x14 => zb1 (zbl (x11 + x14) 0 (¬ x11 + x14 = 0) (zb1 (g_X5_put k x11 (x11 + x14) M13) (fun M15 => some (M15))) (zb1 (g_X5_put k 0 1 M13) (fun M16 => some (M16)))) (fun M17 => zb1 (g_X5_part k p2 M17) (fun v18 => some (M17, v18)))))))))))))))))))) (some (M0, (-1)))))))
theorem e_X10_carried {i : Nat} : f_X10_carried (zKn i) 1 = g_X10_carried (zKn i) := by
  funext p1 p2 M0
  simp only [f_X10_carried, g_X10_carried, Int.cast_ofNat_Int, zq_1_1, zq_1_8, zq_4_6, zq_4_7, zq_4_8, zq_4_9, e_X10_settle, e_X10_sumLives, e_X10_sumLivesIn, e_X5_part, e_X5_put]
def gb_X2_isSure_31 (k : zK) (l1 : Int) (l2 : Int) (M0 : zM) (y3 : Int) : Option ((Int) ⊕ ((Unit) ⊕ Int)) :=
  zbr y3 4 (4 ≤ y3) (some (.inr (.inl ()))) (zb1 (f_X10_beside k l1 y3 M0) (fun v2 => zbr v2 (-1) (v2 = (-1)) (zlt (y3 + 1) (fun x4 => some (.inl (x4)))) (zbr v2 l2 (v2 = l2) (zlt (y3 + 1) (fun x5 => some (.inl (x5)))) (zgd (0 ≤ v2 ∧ v2 < 256) (zgd (0 ≤ l2 ∧ l2 < 256) (zbr (M0 26 v2.toNat) (M0 27 l2.toNat) (M0 27 l2.toNat ≤ M0 26 v2.toNat) (zlt (y3 + 1) (fun x6 => some (.inl (x6)))) (some (.inr (.inr 0)))))))))
theorem eb_X2_isSure_31 {i : Nat} : fb_X2_isSure_31 (zKn i) 24 = gb_X2_isSure_31 (zKn i) := by
  funext l1 l2 M0 y3
  simp only [fb_X2_isSure_31, gb_X2_isSure_31, Int.cast_ofNat_Int, zq_24_1, zq_24_2]
def g_X2_isSure (k : zK) (p1 : Int) (M0 : zM) : Option Int :=
  zgd (0 ≤ p1 ∧ p1 < 256) (zlt (M0 29 p1.toNat) (fun x1 => zbr x1 (-1) (x1 = (-1)) (some 0) (zgd (0 ≤ x1 ∧ x1 < 256) (zgd (0 ≤ p1 ∧ p1 < 256) (zbr (M0 27 x1.toNat) (M0 26 p1.toNat) (M0 27 x1.toNat < M0 26 p1.toNat) (zsp0 (zw1 (gb_X2_isSure_31 k p1 x1 M0) zfu 0) (fun r => some ((r))) (some 1)) (some 0))))))
theorem e_X2_isSure {i : Nat} : f_X2_isSure (zKn i) 24 = g_X2_isSure (zKn i) := by
  funext p1 M0
  simp only [f_X2_isSure, g_X2_isSure, Int.cast_ofNat_Int, zq_24_1, zq_24_2, zq_24_4, eb_X2_isSure_31]
def g_X10_groundOf (k : zK) (p1 : Int) (p2 : Int) (M0 : zM) : Option (zM × Int) :=
  zb1 (g_X10_settle k M0) (fun M1 => zgd (zr p2) (if p2 = 0 then (zgd (0 ≤ p1 ∧ p1 < 256) (some (M1, M1 26 p1.toNat))) else (if p2 = 1 then (zgd (0 ≤ p1 ∧ p1 < 256) (some (M1, M1 27 p1.toNat))) else (if p2 = 2 then (zgd (0 ≤ p1 ∧ p1 < 256) (some (M1, M1 25 p1.toNat))) else (if p2 = 3 then (zgd (0 ≤ p1 ∧ p1 < 256) (some (M1, M1 29 p1.toNat))) else (if p2 = 4 then (zgd (0 ≤ p1 ∧ p1 < 256) (some (M1, M1 30 p1.toNat))) else (if p2 = 5 then (zb1 (g_X2_isSure k p1 M1) (fun v15 => zbr v15 0 (v15 = 0) (some (M1, 0)) (some (M1, 1)))) else (if p2 = 6 then (zgd (ztag k (M1 1 10).toNat = 4 ∧ (M1 1 10).toNat ≠ 0) (zlt (M1 1 10).toNat (fun q19 => zgd (ztag k (M1 1 10).toNat = 4 ∧ (M1 1 10).toNat ≠ 0) (zlt (M1 1 10).toNat (fun q21 => zgd (0 ≤ p1 ∧ p1 < 256) (zb1 (f_X3_firstAgeAt k q19 (zfr k q21 9) (M1 26 p1.toNat) M1) (fun v23 => some (M1, v23)))))))) else (if p2 = 7 then (zgd (ztag k (M1 1 10).toNat = 4 ∧ (M1 1 10).toNat ≠ 0) (zlt (M1 1 10).toNat (fun q27 => zgd (ztag k (M1 1 10).toNat = 4 ∧ (M1 1 10).toNat ≠ 0) (zlt (M1 1 10).toNat (fun q29 => zgd (0 ≤ p1 ∧ p1 < 256) (zb1 (f_X3_firstAgeAt k q27 (zfr k q29 8) (M1 27 p1.toNat) M1) (fun v31 => some (M1, v31)))))))) else (some (M1, (-1))))))))))))
theorem e_X10_groundOf {i : Nat} : f_X10_groundOf (zKn i) 1 = g_X10_groundOf (zKn i) := by
  funext p1 p2 M0
  simp only [f_X10_groundOf, g_X10_groundOf, Int.cast_ofNat_Int, zq_1_4, zq_24_0, zq_24_1, zq_24_2, zq_24_4, zq_24_5, e_X10_settle, e_X2_isSure]
def g_X10_cell (k : zK) (p1 : Int) (p2 : Int) (M0 : zM) : Option (zM × Int) :=
  zb1 (f_X10_isCell k p1 M0) (fun v1 => zbr v1 0 (¬ v1 = 0) (zgd (zr p2) (if p2 = 8 then (zgd (0 ≤ p1 ∧ p1 < 256) (some (M0, M0 6 p1.toNat))) else (if p2 = 9 then (zb1 (f_X7_isPlace k 4 p1 M0) (fun v8 => zbr v8 0 (v8 = 0) (some (M0, 0)) (some (M0, 1)))) else (if p2 = 10 then (zgd (0 ≤ p1 ∧ p1 < 256) (some (M0, M0 19 p1.toNat))) else (zbd (g_X10_groundOf k p1 p2 M0) (fun M13 v12 => some (M13, v12))))))) (some (M0, (-1))))
theorem e_X10_cell {i : Nat} : f_X10_cell (zKn i) 1 = g_X10_cell (zKn i) := by
  funext p1 p2 M0
  simp only [f_X10_cell, g_X10_cell, Int.cast_ofNat_Int, zq_1_1, zq_4_2, zq_4_3, e_X10_groundOf]
def g_X10_count (k : zK) (p1 : Int) (M0 : zM) : Option Int :=
  zgd (zr p1) (if p1 = 0 then (zgd (ztag k (M0 1 10).toNat = 4 ∧ (M0 1 10).toNat ≠ 0) (zlt (M0 1 10).toNat (fun q4 => some (M0 q4 0)))) else (if p1 = 1 then (some (M0 4 16)) else (if p1 = 2 then (some (M0 4 17)) else (if p1 = 3 then (zb1 (f_X7_countBuckets k 4 M0) (fun v12 => some v12)) else (if p1 = 4 then (some (M0 4 18)) else (if p1 = 5 then (some (M0 4 15)) else (if p1 = 6 then (some (M0 2 1)) else (if p1 = 7 then (some (M0 1 13)) else (if p1 = 8 then (zgd (0 ≤ p1 - 8 ∧ p1 - 8 < 3) (some (M0 51 (p1 - 8).toNat))) else (if p1 = 9 then (zgd (0 ≤ p1 - 8 ∧ p1 - 8 < 3) (some (M0 51 (p1 - 8).toNat))) else (if p1 = 10 then (zgd (0 ≤ p1 - 8 ∧ p1 - 8 < 3) (some (M0 51 (p1 - 8).toNat))) else (if p1 = 11 then (zgd (ztag k (M0 1 10).toNat = 4 ∧ (M0 1 10).toNat ≠ 0) (zlt (M0 1 10).toNat (fun q30 => some (M0 q30 13)))) else (if p1 = 12 then (zgd (ztag k (M0 1 10).toNat = 4 ∧ (M0 1 10).toNat ≠ 0) (zlt (M0 1 10).toNat (fun q34 => zgd (0 ≤ p1 - 12 ∧ p1 - 12 < 3) (some (M0 (zfr k q34 14) (p1 - 12).toNat))))) else (if p1 = 13 then (zgd (ztag k (M0 1 10).toNat = 4 ∧ (M0 1 10).toNat ≠ 0) (zlt (M0 1 10).toNat (fun q38 => zgd (0 ≤ p1 - 12 ∧ p1 - 12 < 3) (some (M0 (zfr k q38 14) (p1 - 12).toNat))))) else (if p1 = 14 then (zgd (ztag k (M0 1 10).toNat = 4 ∧ (M0 1 10).toNat ≠ 0) (zlt (M0 1 10).toNat (fun q42 => zgd (0 ≤ p1 - 12 ∧ p1 - 12 < 3) (some (M0 (zfr k q42 14) (p1 - 12).toNat))))) else (if p1 = 15 then (some (M0 4 19)) else (some (-1))))))))))))))))))
theorem e_X10_count {i : Nat} : f_X10_count (zKn i) 1 = g_X10_count (zKn i) := by
  funext p1 M0
  simp only [f_X10_count, g_X10_count, Int.cast_ofNat_Int, zq_1_0, zq_1_1, zq_1_9]
def gb_X10_reckonLeft_59 (k : zK) (l1 : Int) (M0 : zM) (y4 : Int) (y6 : Int) (y8 : Int) : Option ((Int × Int × Int) ⊕ (Int × Int)) :=
  zgd (0 ≤ l1 ∧ l1 < 256) (zbr y8 (M0 6 l1.toNat) (M0 6 l1.toNat ≤ y8) (some (.inr (y4, y6))) (zgd (ztag k (M0 1 10).toNat = 4 ∧ (M0 1 10).toNat ≠ 0) (zlt (M0 1 10).toNat (fun q5 => zgd (zr (10 - (M0 q5 13))) (zlt (y4 * (10 - (M0 q5 13))) (fun x7 => zlt (y6 * 10) (fun x8 => zlt (y8 + 1) (fun x9 => some (.inl (x7, x8, x9))))))))))
theorem eb_X10_reckonLeft_59 {i : Nat} : fb_X10_reckonLeft_59 (zKn i) 1 = gb_X10_reckonLeft_59 (zKn i) := by
  funext l1 M0 y4 y6 y8
  simp only [fb_X10_reckonLeft_59, gb_X10_reckonLeft_59, Int.cast_ofNat_Int, zq_1_1, zq_4_2]
def g_X10_reckonLeft (k : zK) (p1 : Int) (M0 : zM) : Option zM :=
  zgd (0 ≤ p1 ∧ p1 < 256) (zbr (M0 22 p1.toNat) 0 (¬ M0 22 p1.toNat = 0) (zb1 (g_X8_kindOf k p1 M0) (fun v1 => zgd (0 ≤ v1 ∧ v1 < 16) (zgd (zr ((M0 8 v1.toNat) + 1)) (zlt ((M0 8 v1.toNat) + 1) (fun x3 => zgd (0 ≤ v1 ∧ v1 < 16) (zgd (zr ((M0 7 v1.toNat) + 2)) (zlt (((M0 7 v1.toNat) + 2) - x3) (fun x4 => zb2 (zw3 (gb_X10_reckonLeft_59 k p1 M0) zfu x3 x4 0) (fun x10 x11 => zb1 (g_X5_put k x10 (x10 + x11) M0) (fun M12 => some M12)))))))))) (zb1 (g_X5_put k 0 1 M0) (fun M13 => some M13)))
theorem e_X10_reckonLeft {i : Nat} {p1 : Int} : f_X10_reckonLeft (zKn i) 1 p1 21 = g_X10_reckonLeft (zKn i) p1 := by
  funext M0
  simp only [f_X10_reckonLeft, g_X10_reckonLeft, Int.cast_ofNat_Int, zq_1_1, zq_1_8, zq_4_4, zq_4_5, zq_21_0, e_X5_put, e_X8_kindOf, eb_X10_reckonLeft_59]
def gb_X10_doubt_36 (k : zK) (y3 : Int) (y4 : Int) (y6 : Int) (y8 : Int) (M0 : zM) : Option ((Int × Int × Int × Int × zM) ⊕ (Int × zM)) :=
  zbr y8 (M0 4 18) (M0 4 18 ≤ y8) (some (.inr (y3, M0))) (zgd (0 ≤ y8 ∧ y8 < 10) (zb1 (g_X10_reckonLeft k (M0 13 y8.toNat) M0) (fun M6 => zgd (zrl ((2 * (M6 50 0)) - (M6 50 1)) ∧ -9223372036854775807 ≤ (2 * (M6 50 0)) - (M6 50 1)) (zlt (zabs ((2 * (M6 50 0)) - (M6 50 1))) (fun x7 => zsp1 (zbr y8 0 (y8 = 0) (some (.inl y8)) (zb1 (f_X5_compare k x7 (M6 50 1) y4 y6 M6) (fun v8 => zbr v8 0 (0 ≤ v8) (zlt (y8 + 1) (fun x10 => some (.inr (.inl (y3, y4, y6, x10, M6))))) (some (.inl y8))))) (fun r => some r) (fun x11 => zlt (M6 50 1) (fun x12 => zlt (x11 + 1) (fun x13 => some (.inl (x11, x7, x12, x13, M6))))))))))
theorem eb_X10_doubt_36 {i : Nat} : fb_X10_doubt_36 (zKn i) 1 21 = gb_X10_doubt_36 (zKn i) := by
  funext y3 y4 y6 y8 M0
  simp only [fb_X10_doubt_36, gb_X10_doubt_36, Int.cast_ofNat_Int, zq_1_1, zq_1_8, zq_4_10, e_X10_reckonLeft]
def g_X10_doubt (k : zK) (p1 : Int) (M0 : zM) : Option (zM × Int) :=
  zb1 (f_X10_isAge k p1 M0) (fun v1 => zbr v1 0 (v1 = 0) (some (M0, (-1))) (zbr (M0 4 18) 0 (¬ M0 4 18 = 0) (zbd (g_X10_viewAt k p1 M0) (fun M4 v3 => zgd (ztag k v3.toNat = 9) (zb2 (zw5 (fb_X10_doubt_36 k 1 (v3.toNat)) zfu 0 0 1 0 M4) (fun x14 M15 => some (M15, x14))))) (some (M0, (-1)))))
theorem e_X10_doubt {i : Nat} : f_X10_doubt (zKn i) 1 = g_X10_doubt (zKn i) := by
  funext p1 M0
  simp only [f_X10_doubt, g_X10_doubt, Int.cast_ofNat_Int, zq_1_1, e_X10_viewAt]
def g_X10_dry (k : zK) (p1 : Int) (p2 : Int) (M0 : zM) : Option (zM × Int) :=
  zb1 (f_X10_isKind k p1 M0) (fun v1 => zbr v1 0 (¬ v1 = 0) (zbr (M0 4 16) 80 (M0 4 16 < 80) (zgd (0 ≤ p1 ∧ p1 < 16) (zgd (0 ≤ p1 ∧ p1 < 16) (zlt (zst M0 7 p1.toNat ((M0 7 p1.toNat) + 1)) (fun M3 => zb1 (zbr p2 0 (p2 = 0) (some (M3)) (zgd (0 ≤ p1 ∧ p1 < 16) (zgd (0 ≤ p1 ∧ p1 < 16) (zlt (zst M3 8 p1.toNat ((M3 8 p1.toNat) + 1)) (fun M4 => some (M4)))))) (fun M5 => zlt (zst M5 4 16 ((M5 4 16) + 1)) (fun M6 => zb1 (g_X9_forget k M6) (fun M7 => some (M7, M7 4 16)))))))) (zbd (g_X10_refuse k 1 M0) (fun M9 v8 => some (M9, v8)))) (zbd (g_X10_refuse k 0 M0) (fun M11 v10 => some (M11, v10))))
theorem e_X10_dry {i : Nat} : f_X10_dry (zKn i) 1 = g_X10_dry (zKn i) := by
  funext p1 p2 M0
  simp only [f_X10_dry, g_X10_dry, Int.cast_ofNat_Int, zq_1_1, zq_1_7, zq_4_4, zq_4_5, e_X10_refuse, e_X9_forget]
def gb_X10_ends_42 (k : zK) (l3 : Int) (M0 : zM) (y4 : Int) (y5 : Int) : Option ((Int × Int) ⊕ (Int)) :=
  zbr y5 256 (256 ≤ y5) (some (.inr y4)) (zgd (0 ≤ y5 ∧ y5 < 256) (zbr (M0 32 y5.toNat) l3 (¬ M0 32 y5.toNat = l3) (zlt (y5 + 1) (fun x7 => some (.inl (y4, x7)))) (zlt (y4 + 1) (fun x8 => zlt (y5 + 1) (fun x9 => some (.inl (x8, x9)))))))
theorem eb_X10_ends_42 {i : Nat} : fb_X10_ends_42 (zKn i) 1 = gb_X10_ends_42 (zKn i) := by
  funext l3 M0 y4 y5
  simp only [fb_X10_ends_42, gb_X10_ends_42, Int.cast_ofNat_Int, zq_1_4, zq_24_7]
def g_X10_ends (k : zK) (p1 : Int) (p2 : Int) (M0 : zM) : Option (zM × Int) :=
  zb1 (f_X10_isCell k p1 M0) (fun v1 => zbr v1 0 (v1 = 0) (some (M0, (-1))) (zb1 (f_X10_isPart k p2 M0) (fun v3 => zbr v3 0 (¬ v3 = 0) (zb1 (g_X10_settle k M0) (fun M5 => zgd (0 ≤ p1 ∧ p1 < 256) (zlt (M5 32 p1.toNat) (fun x6 => zbr p2 0 (¬ p2 = 0) (zb1 (zw2 (gb_X10_ends_42 k x6 M5) zfu 0 0) (fun x10 => some (M5, x10))) (some (M5, x6)))))) (some (M0, (-1))))))
theorem e_X10_ends {i : Nat} : f_X10_ends (zKn i) 1 = g_X10_ends (zKn i) := by
  funext p1 p2 M0
  simp only [f_X10_ends, g_X10_ends, Int.cast_ofNat_Int, zq_1_4, zq_24_7, e_X10_settle, eb_X10_ends_42]
def g_X10_fault (k : zK) (M0 : zM) : Option Int :=
  some (M0 1 12)
theorem e_X10_fault {i : Nat} : f_X10_fault (zKn i) 1 = g_X10_fault (zKn i) := by
  funext M0
  simp only [f_X10_fault, g_X10_fault, Int.cast_ofNat_Int]
def gb_X6_put_3 (k : zK) (l1 : Int) (y2 : Int) (M0 : zM) : Option ((Int × zM) ⊕ (zM)) :=
  zbr y2 0 (y2 < 0) (some (.inr M0)) (zbr (M0 2 1) 700 (700 ≤ M0 2 1) (zlt (y2 + (-8)) (fun x1 => some (.inl (x1, M0)))) (zgd (0 ≤ M0 2 1 ∧ M0 2 1 < 700) (zlt (zst M0 3 (M0 2 1).toNat (zo_and (zo_ushr l1 y2) 255)) (fun M2 => zlt (zst M2 2 1 ((M2 2 1) + 1)) (fun M3 => zlt (y2 + (-8)) (fun x4 => some (.inl (x4, M3))))))))
theorem eb_X6_put_3 {i : Nat} : fb_X6_put_3 (zKn i) 2 = gb_X6_put_3 (zKn i) := by
  funext l1 y2 M0
  simp only [fb_X6_put_3, gb_X6_put_3, Int.cast_ofNat_Int, zq_2_0]
def g_X6_put (k : zK) (p1 : Int) (M0 : zM) : Option zM :=
  zb1 (zw2 (gb_X6_put_3 k p1) zfu 24 M0) (fun M5 => some M5)
theorem e_X6_put {i : Nat} : f_X6_put (zKn i) 2 = g_X6_put (zKn i) := by
  funext p1 M0
  simp only [f_X6_put, g_X6_put, Int.cast_ofNat_Int, eb_X6_put_3]
def g_X10_feed (k : zK) (p1 : Int) (p2 : Int) (p3 : Int) (p4 : Int) (p5 : Int) (M0 : zM) : Option (zM × Int) :=
  zbr ((M0 2 1) + 20) 700 ((M0 2 1) + 20 ≤ 700) (zb1 (g_X6_put k p1 M0) (fun M1 => zb1 (g_X6_put k p2 M1) (fun M2 => zb1 (g_X6_put k p3 M2) (fun M3 => zb1 (g_X6_put k p4 M3) (fun M4 => zb1 (g_X6_put k p5 M4) (fun M5 => some (M5, M5 2 1))))))) (some (M0, (-1)))
theorem e_X10_feed {i : Nat} : f_X10_feed (zKn i) 1 = g_X10_feed (zKn i) := by
  funext p1 p2 p3 p4 p5 M0
  simp only [f_X10_feed, g_X10_feed, Int.cast_ofNat_Int, zq_1_0, e_X6_put]
def g_X10_find (k : zK) (p1 : Int) (p2 : Int) (p3 : Int) (p4 : Int) (M0 : zM) : Option (zM × Int) :=
  zb1 (f_X10_isCell k p1 M0) (fun v1 => zsp1 (zbr v1 0 (v1 = 0) (some (.inl M0)) (zbr p2 0 (p2 < 0) (some (.inl M0)) (zbr p2 3 (3 ≤ p2) (some (.inl M0)) (zb1 (f_X10_areAges k p3 p4 M0) (fun v3 => zbr v3 0 (¬ v3 = 0) (zbr (M0 4 17) 60 (M0 4 17 < 60) (zlt (M0 4 17) (fun x5 => zgd (0 ≤ x5 ∧ x5 < 60) (zlt (zst M0 9 x5.toNat (p1)) (fun M6 => zgd (0 ≤ x5 ∧ x5 < 60) (zlt (zst M6 10 x5.toNat (p2)) (fun M7 => zgd (0 ≤ x5 ∧ x5 < 60) (zlt (zst M7 11 x5.toNat (p3)) (fun M8 => zgd (0 ≤ x5 ∧ x5 < 60) (zlt (zst M8 12 x5.toNat (p4)) (fun M9 => zlt (zst M9 4 17 ((M9 4 17) + 1)) (fun M10 => some (.inr (M10, x5))))))))))))) (zbd (g_X10_refuse k 1 M0) (fun M12 v11 => some (.inr (M12, v11))))) (some (.inl M0))))))) (fun r => some r) (fun M13 => zbd (g_X10_refuse k 0 M13) (fun M15 v14 => some (M15, v14))))
theorem e_X10_find {i : Nat} : f_X10_find (zKn i) 1 = g_X10_find (zKn i) := by
  funext p1 p2 p3 p4 M0
  simp only [f_X10_find, g_X10_find, Int.cast_ofNat_Int, zq_1_1, zq_4_6, zq_4_7, zq_4_8, zq_4_9, e_X10_refuse]
def gb_X10_letterFits_40 (k : zK) (l1 : Int) (l2 : Int) (l3 : Int) (M0 : zM) (y4 : Int) : Option ((Int) ⊕ ((Unit) ⊕ Int)) :=
  zgd (0 ≤ l1 ∧ l1 < 40) (zbr y4 (M0 17 l1.toNat) (M0 17 l1.toNat < y4) (some (.inr (.inl ()))) (zb1 (zbr l3 0 (l3 = 0) (zgd (ztag k (M0 1 10).toNat = 4 ∧ (M0 1 10).toNat ≠ 0) (zlt (M0 1 10).toNat (fun q4 => zgd (0 ≤ y4 ∧ y4 < 100) (zbr (M0 (zfr k q4 9) y4.toNat) l2 (M0 (zfr k q4 9) y4.toNat < l2) (some (0)) (some (1)))))) (zgd (ztag k (M0 1 10).toNat = 4 ∧ (M0 1 10).toNat ≠ 0) (zlt (M0 1 10).toNat (fun q6 => zgd (0 ≤ y4 ∧ y4 < 100) (zbr (M0 (zfr k q6 8) y4.toNat) l2 (l2 ≤ M0 (zfr k q6 8) y4.toNat) (some (0)) (some (1))))))) (fun x8 => zbr x8 0 (x8 = 0) (zlt (y4 + 1) (fun x9 => some (.inl (x9)))) (some (.inr (.inr 1))))))
theorem eb_X10_letterFits_40 {i : Nat} : fb_X10_letterFits_40 (zKn i) 1 = gb_X10_letterFits_40 (zKn i) := by
  funext l1 l2 l3 M0 y4
  simp only [fb_X10_letterFits_40, gb_X10_letterFits_40, Int.cast_ofNat_Int, zq_1_1, zq_4_14]
def g_X10_letterFits (k : zK) (p1 : Int) (M0 : zM) : Option Int :=
  zgd (0 ≤ p1 ∧ p1 < 40) (zlt (M0 15 p1.toNat) (fun x1 => zgd (0 ≤ p1 ∧ p1 < 40) (zb1 (zbr (M0 14 p1.toNat) 1 (¬ M0 14 p1.toNat = 1) (some (0)) (some (1))) (fun x2 => zgd (0 ≤ p1 ∧ p1 < 40) (zlt (M0 16 p1.toNat) (fun x3 => zsp0 (zw1 (gb_X10_letterFits_40 k p1 x1 x2 M0) zfu x3) (fun r => some ((r))) (some 0)))))))
theorem e_X10_letterFits {i : Nat} : f_X10_letterFits (zKn i) 1 = g_X10_letterFits (zKn i) := by
  funext p1 M0
  simp only [f_X10_letterFits, g_X10_letterFits, Int.cast_ofNat_Int, zq_1_1, zq_4_11, zq_4_12, zq_4_13, eb_X10_letterFits_40]
def gb_X10_fits_15 (k : zK) (l1 : Int) (M0 : zM) (y2 : Int) (y3 : Int) : Option ((Int × Int) ⊕ ((Int) ⊕ Int)) :=
  zbr y3 (M0 4 19) (M0 4 19 ≤ y3) (some (.inr (.inl y2))) (zb1 (g_X10_letterFits k y3 M0) (fun v1 => zbr v1 0 (v1 = 0) (zbr l1 0 (¬ l1 = 0) (zlt (y3 + 1) (fun x3 => some (.inl (y2, x3)))) (some (.inr (.inr y3)))) (zlt (y2 + 1) (fun x4 => zlt (y3 + 1) (fun x5 => some (.inl (x4, x5)))))))
theorem eb_X10_fits_15 {i : Nat} : fb_X10_fits_15 (zKn i) 1 = gb_X10_fits_15 (zKn i) := by
  funext l1 M0 y2 y3
  simp only [fb_X10_fits_15, gb_X10_fits_15, Int.cast_ofNat_Int, zq_1_1, e_X10_letterFits]
def g_X10_fits (k : zK) (p1 : Int) (M0 : zM) : Option Int :=
  zsp0 (zbr p1 (-1) (p1 = (-1)) (some (.inl ())) (zbr p1 0 (p1 = 0) (some (.inl ())) (some (.inr (-1))))) (fun r => some r) (zsp1 (zw2 (gb_X10_fits_15 k p1 M0) zfu 0 0) (fun r => some ((r))) (fun x6 => zbr p1 (-1) (¬ p1 = (-1)) (some (-1)) (some x6)))
theorem e_X10_fits {i : Nat} : f_X10_fits (zKn i) 1 = g_X10_fits (zKn i) := by
  funext p1 M0
  simp only [f_X10_fits, g_X10_fits, Int.cast_ofNat_Int, eb_X10_fits_15]
def g_X8_isBank (k : zK) (p1 : Int) (p2 : Int) (M0 : zM) : Option Int :=
  zbr p1 (-1) (p1 = (-1)) (some 0) (zgd (0 ≤ p1 ∧ p1 < 256) (zbr (M0 22 p1.toNat) 0 (M0 22 p1.toNat = 0) (some 0) (zgd (0 ≤ p1 ∧ p1 < 256) (zbr (M0 30 p1.toNat) p2 (p2 ≤ M0 30 p1.toNat) (some 0) (some 1)))))
theorem e_X8_isBank {i : Nat} : f_X8_isBank (zKn i) 21 = g_X8_isBank (zKn i) := by
  funext p1 p2 M0
  simp only [f_X8_isBank, g_X8_isBank, Int.cast_ofNat_Int, zq_21_0, zq_21_2, zq_24_5]
def g_X8_isFord (k : zK) (p1 : Int) (p2 : Int) (M0 : zM) : Option Int :=
  zgd (0 ≤ p1 ∧ p1 < 256) (zbr (M0 22 p1.toNat) 0 (M0 22 p1.toNat = 0) (some 0) (zgd (0 ≤ p1 ∧ p1 < 256) (zbr (M0 30 p1.toNat) p2 (p2 ≤ M0 30 p1.toNat) (zb1 (f_X10_beside k p1 1 M0) (fun v1 => zb1 (g_X8_isBank k v1 p2 M0) (fun v3 => zsp0 (zbr v3 0 (v3 = 0) (some (.inl ())) (zb1 (f_X10_beside k p1 2 M0) (fun v5 => zb1 (g_X8_isBank k v5 p2 M0) (fun v7 => zbr v7 0 (v7 = 0) (some (.inl ())) (zbr 1 0 (¬ (1 : Int) = 0) (some (.inr 1)) (zb1 (f_X10_beside k p1 0 M0) (fun v9 => zb1 (g_X8_isBank k v9 p2 M0) (fun v11 => zbr v11 0 (v11 = 0) (some (.inr 0)) (zb1 (f_X10_beside k p1 3 M0) (fun v13 => zb1 (g_X8_isBank k v13 p2 M0) (fun v15 => zbr v15 0 (v15 = 0) (some (.inr 0)) (some (.inr 1))))))))))))) (fun r => some r) (zbr 0 0 (¬ (0 : Int) = 0) (some 1) (zb1 (f_X10_beside k p1 0 M0) (fun v17 => zb1 (g_X8_isBank k v17 p2 M0) (fun v19 => zbr v19 0 (v19 = 0) (some 0) (zb1 (f_X10_beside k p1 3 M0) (fun v21 => zb1 (g_X8_isBank k v21 p2 M0) (fun v23 => zbr v23 0 (v23 = 0) (some 0) (some 1))))))))))) (some 0))))
theorem e_X8_isFord {i : Nat} : f_X8_isFord (zKn i) 21 = g_X8_isFord (zKn i) := by
  funext p1 p2 M0
  simp only [f_X8_isFord, g_X8_isFord, Int.cast_ofNat_Int, zq_21_0, zq_21_2, zq_24_5, e_X8_isBank]
def gb_X10_ford_38 (k : zK) (l2 : Int) (l3 : Int) (M0 : zM) (y5 : Int) (y6 : Int) : Option ((Int × Int) ⊕ ((Int) ⊕ (zM × Int))) :=
  zbr y6 256 (256 ≤ y6) (some (.inr (.inl y5))) (zb1 (g_X8_isFord k y6 l2 M0) (fun v6 => zbr v6 0 (v6 = 0) (zlt (y6 + 1) (fun x8 => some (.inl (y5, x8)))) (zbr y5 l3 (¬ y5 = l3) (zlt (y5 + 1) (fun x9 => zlt (y6 + 1) (fun x10 => some (.inl (x9, x10))))) (some (.inr (.inr (M0, y6)))))))
theorem eb_X10_ford_38 {i : Nat} {l2 : Int} {l3 : Int} : fb_X10_ford_38 (zKn i) l2 l3 21 = gb_X10_ford_38 (zKn i) l2 l3 := by
  funext M0 y5 y6
  simp only [fb_X10_ford_38, gb_X10_ford_38, Int.cast_ofNat_Int, e_X8_isFord]
def g_X10_ford (k : zK) (p1 : Int) (p2 : Int) (p3 : Int) (M0 : zM) : Option (zM × Int) :=
  zb1 (f_X10_isAge k p1 M0) (fun v1 => zbr v1 0 (v1 = 0) (some (M0, (-1))) (zbr p2 2 (p2 < 2) (some (M0, (-1))) (zbr p2 99 (99 < p2) (some (M0, (-1))) (zbr p3 (-1) ((-1) ≤ p3) (zbd (g_X10_viewAt k p1 M0) (fun M4 v3 => zgd (ztag k v3.toNat = 9) (zsp1 (zw2 (fb_X10_ford_38 k p2 p3 (v3.toNat) M4) zfu 0 0) (fun r => some (r)) (fun x11 => zbr p3 (-1) (¬ p3 = (-1)) (some (M4, (-1))) (some (M4, x11)))))) (some (M0, (-1)))))))
theorem e_X10_ford {i : Nat} : f_X10_ford (zKn i) 1 = g_X10_ford (zKn i) := by
  funext p1 p2 p3 M0
  simp only [f_X10_ford, g_X10_ford, Int.cast_ofNat_Int, e_X10_viewAt]
def g_X10_forgetGround (k : zK) (M0 : zM) : Option zM :=
  zgd ((1 : Int) = 0 ∨ (1 : Int) = 1) (zlt (zst M0 1 14 1) (fun M1 => zb1 (g_X9_forget k M1) (fun M2 => some M2)))
theorem e_X10_forgetGround {i : Nat} : f_X10_forgetGround (zKn i) 1 = g_X10_forgetGround (zKn i) := by
  funext M0
  simp only [f_X10_forgetGround, g_X10_forgetGround, Int.cast_ofNat_Int, zq_1_7, e_X9_forget]
def g_X10_found (k : zK) (p1 : Int) (p2 : Int) (M0 : zM) : Option Int :=
  zbr p1 0 (p1 < 0) (some (-1)) (zbr p1 (M0 4 17) (M0 4 17 ≤ p1) (some (-1)) (zbr p1 60 (p1 < 60) (zgd (zr p2) (if p2 = 0 then (zgd (0 ≤ p1 ∧ p1 < 60) (some (M0 9 p1.toNat))) else (if p2 = 1 then (zgd (0 ≤ p1 ∧ p1 < 60) (some (M0 10 p1.toNat))) else (if p2 = 2 then (zgd (0 ≤ p1 ∧ p1 < 60) (some (M0 11 p1.toNat))) else (if p2 = 3 then (zgd (0 ≤ p1 ∧ p1 < 60) (some (M0 12 p1.toNat))) else (some (-1))))))) (some (-1))))
theorem e_X10_found {i : Nat} : f_X10_found (zKn i) 1 = g_X10_found (zKn i) := by
  funext p1 p2 M0
  simp only [f_X10_found, g_X10_found, Int.cast_ofNat_Int, zq_1_1, zq_4_6, zq_4_7, zq_4_8, zq_4_9]
def g_X8_standsTo (k : zK) (p1 : Int) (p2 : Int) (M0 : zM) : Option Int :=
  zb1 (g_X8_heightOf k p1 M0) (fun v1 => zgd (0 ≤ p1 ∧ p1 < 256) (some (v1 + (p2 * (M0 23 p1.toNat)))))
theorem e_X8_standsTo {i : Nat} : f_X8_standsTo (zKn i) 21 = g_X8_standsTo (zKn i) := by
  funext p1 p2 M0
  simp only [f_X8_standsTo, g_X8_standsTo, Int.cast_ofNat_Int, zq_21_1, e_X8_heightOf]
def g_X10_gone (k : zK) (p1 : Int) (p2 : Int) (p3 : Int) (p4 : Int) (M0 : zM) : Option (zM × Int) :=
  zb1 (f_X10_isCell k p1 M0) (fun v1 => zbr v1 0 (v1 = 0) (some (M0, (-2))) (zb1 (f_X10_isAge k p2 M0) (fun v3 => zbr v3 0 (v3 = 0) (some (M0, (-2))) (zb1 (f_X10_isWave k p3 p4 M0) (fun v5 => zbr v5 0 (¬ v5 = 0) (zbd (g_X10_viewAt k p2 M0) (fun M8 v7 => zgd (ztag k v7.toNat = 9) (zgd (0 ≤ p1 ∧ p1 < 256) (zbr (M8 (zfr k (v7.toNat) 0) p1.toNat) 0 (¬ M8 (zfr k (v7.toNat) 0) p1.toNat = 0) (zb1 (f_X8_standsTo k (v7.toNat) p1 p4 M8) (fun v10 => zbr v10 p3 (p3 ≤ v10) (some (M8, 0)) (some (M8, 1)))) (some (M8, (-1))))))) (some (M0, (-2))))))))
theorem e_X10_gone {i : Nat} : f_X10_gone (zKn i) 1 = g_X10_gone (zKn i) := by
  funext p1 p2 p3 p4 M0
  simp only [f_X10_gone, g_X10_gone, Int.cast_ofNat_Int, e_X10_viewAt]
def gb_X10_height_45 (k : zK) (l2 : Int) (l3 : Int) (M0 : zM) (y5 : Int) (y6 : Int) (y7 : Int) : Option ((Int × Int × Int) ⊕ (Int × Int)) :=
  zbr y7 256 (256 ≤ y7) (some (.inr (y5, y6))) (zgd (0 ≤ y7 ∧ y7 < 256) (zbr (M0 19 y7.toNat) (-1) (M0 19 y7.toNat = (-1)) (zlt (y7 + 1) (fun x6 => some (.inl (y5, y6, x6)))) (zgd (0 ≤ y7 ∧ y7 < 256) (zbr (M0 22 y7.toNat) 0 (M0 22 y7.toNat = 0) (zlt (y7 + 1) (fun x7 => some (.inl (y5, y6, x7)))) (zb1 (g_X8_standsTo k y7 l2 M0) (fun v8 => zgd (0 ≤ y7 ∧ y7 < 256) (zbr (M0 19 y7.toNat) 1 (¬ M0 19 y7.toNat = 1) (zgd (zr y6 ∧ zr v8) (zlt (zmin y6 v8) (fun x10 => zlt (y7 + 1) (fun x11 => some (.inl (y5, x10, x11)))))) (zgd (zr y5 ∧ zr (v8 + 1)) (zlt (zmax y5 (v8 + 1)) (fun x12 => zlt (y7 + 1) (fun x13 => some (.inl (x12, y6, x13)))))))))))))
theorem eb_X10_height_45 {i : Nat} {l2 : Int} {l3 : Int} : fb_X10_height_45 (zKn i) 1 l2 l3 21 = gb_X10_height_45 (zKn i) l2 l3 := by
  funext M0 y5 y6 y7
  simp only [fb_X10_height_45, gb_X10_height_45, Int.cast_ofNat_Int, zq_1_1, zq_4_3, zq_21_0, e_X8_standsTo]
def g_X10_height (k : zK) (p1 : Int) (p2 : Int) (p3 : Int) (M0 : zM) : Option (zM × Int) :=
  zb1 (f_X10_isAge k p1 M0) (fun v1 => zbr v1 0 (v1 = 0) (some (M0, (-1))) (zbr p2 0 (p2 < 0) (some (M0, (-1))) (zbr p2 20 (20 < p2) (some (M0, (-1))) (zbr p3 0 (p3 < 0) (some (M0, (-1))) (zbr p3 2 (p3 ≤ 2) (zbd (g_X10_viewAt k p1 M0) (fun M4 v3 => zgd (ztag k v3.toNat = 9) (zb2 (zw3 (fb_X10_height_45 k 1 p2 p3 (v3.toNat) M4) zfu 1 99 0) (fun x14 x15 => zbr p3 2 (¬ p3 = 2) (zbr x14 x15 (x14 ≤ x15) (zbr p3 0 (¬ p3 = 0) (some (M4, x15)) (some (M4, x14))) (some (M4, (-1)))) (zgd (zr 0 ∧ zr ((x15 - x14) + 1)) (some (M4, zmax 0 ((x15 - x14) + 1)))))))) (some (M0, (-1))))))))
theorem e_X10_height {i : Nat} : f_X10_height (zKn i) 1 = g_X10_height (zKn i) := by
  funext p1 p2 p3 M0
  simp only [f_X10_height, g_X10_height, Int.cast_ofNat_Int, e_X10_viewAt]
def g_X4_isNotBehind (k : zK) (p1 : Int) (p2 : Int) (p3 : Int) (M0 : zM) : Option Int :=
  zbr p3 (-1) (¬ p3 = (-1)) (zb1 (g_X4_of k p1 p2 M0) (fun v1 => zb1 (g_X4_of k p1 p3 M0) (fun v3 => zbr v1 v3 (v3 < v1) (some 1) (zbr v1 v3 (¬ v1 = v3) (some 0) (zbr p2 p3 (p3 < p2) (some 0) (some 1)))))) (some 0)
theorem e_X4_isNotBehind {i : Nat} : f_X4_isNotBehind (zKn i) 39 = g_X4_isNotBehind (zKn i) := by
  funext p1 p2 p3 M0
  simp only [f_X4_isNotBehind, g_X4_isNotBehind, Int.cast_ofNat_Int, e_X4_of]
def gb_X10_held_72 (k : zK) (l4 : Int) (l5 : Int) (M0 : zM) (y6 : Int) (y7 : Int) : Option ((Int × Int) ⊕ (Int)) :=
  zbr y7 (M0 4 17) (M0 4 17 ≤ y7) (some (.inr y6)) (zgd (0 ≤ y7 ∧ y7 < 60) (zb1 (g_X4_isNotBehind k l4 (M0 9 y7.toNat) l5 M0) (fun v10 => zbr v10 0 (v10 = 0) (zlt (y7 + 1) (fun x12 => some (.inl (y6, x12)))) (zlt (y6 + 1) (fun x13 => zlt (y7 + 1) (fun x14 => some (.inl (x13, x14))))))))
theorem eb_X10_held_72 {i : Nat} : fb_X10_held_72 (zKn i) 1 = gb_X10_held_72 (zKn i) := by
  funext l4 l5 M0 y6 y7
  simp only [fb_X10_held_72, gb_X10_held_72, Int.cast_ofNat_Int, zq_1_1, zq_1_5, zq_4_6, e_X4_isNotBehind]
def g_X10_held (k : zK) (p1 : Int) (p2 : Int) (p3 : Int) (M0 : zM) : Option (zM × Int) :=
  zb1 (f_X10_isAge k p1 M0) (fun v1 => zbr v1 0 (v1 = 0) (some (M0, (-1))) (zbr p2 1 (p2 < 1) (some (M0, (-1))) (zbr p2 256 (256 < p2) (some (M0, (-1))) (zb1 (f_X10_isPart k p3 M0) (fun v3 => zbr v3 0 (¬ v3 = 0) (zbr p3 1 (¬ p3 = 1) (zb1 (g_X10_settle k M0) (fun M5 => zbd (g_X10_spanKnown k p1 M5) (fun M7 v6 => zbd (g_X4_ranked k v6 (p2 - 1) M7) (fun M9 v8 => zb1 (zw2 (gb_X10_held_72 k v6 v8 M9) zfu 0 0) (fun x15 => some (M9, x15)))))) (some (M0, M0 4 17))) (some (M0, (-1))))))))
theorem e_X10_held {i : Nat} : f_X10_held (zKn i) 1 = g_X10_held (zKn i) := by
  funext p1 p2 p3 M0
  simp only [f_X10_held, g_X10_held, Int.cast_ofNat_Int, zq_1_1, zq_1_5, e_X10_settle, e_X10_spanKnown, e_X4_ranked, eb_X10_held_72]
def gb_X6_isWord_28 (k : zK) (l1 : Nat) (M0 : zM) (y2 : Int) : Option ((Int) ⊕ ((Unit) ⊕ Int)) :=
  zb1 (some (zsl_ l1)) (fun v3 => zbr y2 v3 (v3 ≤ y2) (some (.inr (.inl ()))) (zgd (0 ≤ (M0 2 3) + y2 ∧ (M0 2 3) + y2 < 700) (zb1 (f_J0_charAt l1 y2 M0) (fun v5 => zbr (M0 3 ((M0 2 3) + y2).toNat) v5 (M0 3 ((M0 2 3) + y2).toNat = v5) (zlt (y2 + 1) (fun x7 => some (.inl (x7)))) (some (.inr (.inr 0)))))))
theorem eb_X6_isWord_28 {i : Nat} : fb_X6_isWord_28 (zKn i) 2 = gb_X6_isWord_28 (zKn i) := by
  funext l1 M0 y2
  simp only [fb_X6_isWord_28, gb_X6_isWord_28, Int.cast_ofNat_Int, zq_2_0]
def g_X6_isWord (k : zK) (p1 : Nat) (M0 : zM) : Option Int :=
  zbr (M0 2 5) 1 (¬ M0 2 5 = 1) (some 0) (zb1 (some (zsl_ p1)) (fun v1 => zbr ((M0 2 4) - (M0 2 3)) v1 ((M0 2 4) - (M0 2 3) = v1) (zsp0 (zw1 (gb_X6_isWord_28 k p1 M0) zfu 0) (fun r => some ((r))) (some 1)) (some 0)))
theorem e_X6_isWord {i : Nat} : f_X6_isWord (zKn i) 2 = g_X6_isWord (zKn i) := by
  funext p1 M0
  simp only [f_X6_isWord, g_X6_isWord, Int.cast_ofNat_Int, eb_X6_isWord_28]
def gb_X6_step_0 (k : zK) (M0 : zM) : Option ((zM) ⊕ (zM)) :=
  zbr (M0 2 4) (M0 2 2) (M0 2 2 ≤ M0 2 4) (some (.inr M0)) (zgd (0 ≤ M0 2 4 ∧ M0 2 4 < 700) (zsp0 (zbr (M0 3 (M0 2 4).toNat) 32 (M0 3 (M0 2 4).toNat = 32) (some (.inl ())) (zgd (0 ≤ M0 2 4 ∧ M0 2 4 < 700) (zbr (M0 3 (M0 2 4).toNat) 10 (¬ M0 3 (M0 2 4).toNat = 10) (some (.inr (.inr M0))) (some (.inl ()))))) (fun r => some r) (zlt (zst M0 2 4 ((M0 2 4) + 1)) (fun M1 => some (.inl (M1))))))
theorem eb_X6_step_0 {i : Nat} : fb_X6_step_0 (zKn i) 2 = gb_X6_step_0 (zKn i) := by
  funext M0
  simp only [fb_X6_step_0, gb_X6_step_0, Int.cast_ofNat_Int, zq_2_0]
def gb_X6_step_117 (k : zK) (M0 : zM) : Option ((zM) ⊕ (zM)) :=
  zbr (M0 2 4) (M0 2 2) (M0 2 2 ≤ M0 2 4) (some (.inr M0)) (zgd (0 ≤ M0 2 4 ∧ M0 2 4 < 700) (zbr (M0 3 (M0 2 4).toNat) 97 (M0 3 (M0 2 4).toNat < 97) (some (.inr M0)) (zgd (0 ≤ M0 2 4 ∧ M0 2 4 < 700) (zbr (M0 3 (M0 2 4).toNat) 122 (122 < M0 3 (M0 2 4).toNat) (some (.inr M0)) (zlt (zst M0 2 4 ((M0 2 4) + 1)) (fun M6 => some (.inl (M6))))))))
theorem eb_X6_step_117 {i : Nat} : fb_X6_step_117 (zKn i) 2 = gb_X6_step_117 (zKn i) := by
  funext M0
  simp only [fb_X6_step_117, gb_X6_step_117, Int.cast_ofNat_Int, zq_2_0]
def gb_X6_step_202 (k : zK) (M0 : zM) : Option ((zM) ⊕ (zM)) :=
  zbr (M0 2 4) (M0 2 2) (M0 2 2 ≤ M0 2 4) (some (.inr M0)) (zgd (0 ≤ M0 2 4 ∧ M0 2 4 < 700) (zbr (M0 3 (M0 2 4).toNat) 48 (M0 3 (M0 2 4).toNat < 48) (some (.inr M0)) (zgd (0 ≤ M0 2 4 ∧ M0 2 4 < 700) (zbr (M0 3 (M0 2 4).toNat) 57 (57 < M0 3 (M0 2 4).toNat) (some (.inr M0)) (zb1 (zbr ((M0 2 4) - (M0 2 3)) 4 (4 ≤ (M0 2 4) - (M0 2 3)) (some (10000)) (zgd (0 ≤ M0 2 4 ∧ M0 2 4 < 700) (some ((((M0 2 6) * 10) + (M0 3 (M0 2 4).toNat)) - 48)))) (fun x10 => zlt (zst M0 2 6 x10) (fun M11 => zlt (zst M11 2 4 ((M11 2 4) + 1)) (fun M12 => some (.inl (M12))))))))))
theorem eb_X6_step_202 {i : Nat} : fb_X6_step_202 (zKn i) 2 = gb_X6_step_202 (zKn i) := by
  funext M0
  simp only [fb_X6_step_202, gb_X6_step_202, Int.cast_ofNat_Int, zq_2_0]
def g_X6_step (k : zK) (M0 : zM) : Option zM :=
  zb1 (zw1 (gb_X6_step_0 k) zfu M0) (fun M2 => zlt (zst M2 2 3 (M2 2 4)) (fun M3 => zlt (zst M3 2 6 0) (fun M4 => zbr (M4 2 3) (M4 2 2) (M4 2 3 < M4 2 2) (zgd (0 ≤ M4 2 3 ∧ M4 2 3 < 700) (zsp1 (zbr (M4 3 (M4 2 3).toNat) 97 (M4 3 (M4 2 3).toNat < 97) (some (.inl M4)) (zgd (0 ≤ M4 2 3 ∧ M4 2 3 < 700) (zbr (M4 3 (M4 2 3).toNat) 122 (122 < M4 3 (M4 2 3).toNat) (some (.inl M4)) (zlt (zst M4 2 5 1) (fun M5 => zb1 (zw1 (gb_X6_step_117 k) zfu M5) (fun M7 => some (.inr M7))))))) (fun r => some r) (fun M8 => zgd (0 ≤ M8 2 3 ∧ M8 2 3 < 700) (zsp1 (zbr (M8 3 (M8 2 3).toNat) 48 (M8 3 (M8 2 3).toNat < 48) (some (.inl M8)) (zgd (0 ≤ M8 2 3 ∧ M8 2 3 < 700) (zbr (M8 3 (M8 2 3).toNat) 57 (57 < M8 3 (M8 2 3).toNat) (some (.inl M8)) (zlt (zst M8 2 5 2) (fun M9 => zb1 (zw1 (gb_X6_step_202 k) zfu M9) (fun M13 => some (.inr M13))))))) (fun r => some r) (fun M14 => zlt (zst M14 2 5 3) (fun M15 => zgd (0 ≤ M15 2 3 ∧ M15 2 3 < 700) (zlt (zst M15 2 6 (M15 3 (M15 2 3).toNat)) (fun M16 => zlt (zst M16 2 4 ((M16 2 4) + 1)) (fun M17 => some M17))))))))) (zlt (zst M4 2 5 0) (fun M18 => some M18)))))
theorem e_X6_step {i : Nat} : f_X6_step (zKn i) 2 = g_X6_step (zKn i) := by
  funext M0
  simp only [f_X6_step, g_X6_step, Int.cast_ofNat_Int, zq_2_0, eb_X6_step_0, eb_X6_step_117, eb_X6_step_202]
def g_X6_askedWord (k : zK) (M0 : zM) : Option Int :=
  zb1 (g_X6_isWord k 15 M0) (fun v1 => zbr v1 0 (v1 = 0) (zb1 (g_X6_isWord k 16 M0) (fun v3 => zbr v3 0 (v3 = 0) (zb1 (g_X6_isWord k 17 M0) (fun v5 => zbr v5 0 (v5 = 0) (zb1 (g_X6_isWord k 18 M0) (fun v7 => zbr v7 0 (v7 = 0) (zb1 (g_X6_isWord k 19 M0) (fun v9 => zbr v9 0 (v9 = 0) (zb1 (g_X6_isWord k 20 M0) (fun v11 => zbr v11 0 (v11 = 0) (zb1 (g_X6_isWord k 21 M0) (fun v13 => zbr v13 0 (v13 = 0) (some (-1)) (some 6))) (some 5))) (some 4))) (some 3))) (some 2))) (some 1))) (some 0))
theorem e_X6_askedWord {i : Nat} : f_X6_askedWord (zKn i) 2 = g_X6_askedWord (zKn i) := by
  funext M0
  simp only [f_X6_askedWord, g_X6_askedWord, Int.cast_ofNat_Int, e_X6_isWord]
def g_X6_isSign (k : zK) (p1 : Int) (M0 : zM) : Option Int :=
  zbr (M0 2 5) 3 (¬ M0 2 5 = 3) (some 0) (zbr (M0 2 6) p1 (¬ M0 2 6 = p1) (some 0) (some 1))
theorem e_X6_isSign {i : Nat} : f_X6_isSign (zKn i) 2 = g_X6_isSign (zKn i) := by
  funext p1 M0
  simp only [f_X6_isSign, g_X6_isSign, Int.cast_ofNat_Int]
def g_X6_comparingSign (k : zK) (M0 : zM) : Option Int :=
  zb1 (g_X6_isSign k 60 M0) (fun v1 => zbr v1 0 (v1 = 0) (zb1 (g_X6_isSign k 62 M0) (fun v3 => zbr v3 0 (v3 = 0) (zb1 (g_X6_isSign k 61 M0) (fun v5 => zbr v5 0 (v5 = 0) (some (-1)) (some 2))) (some 1))) (some 0))
theorem e_X6_comparingSign {i : Nat} : f_X6_comparingSign (zKn i) 2 = g_X6_comparingSign (zKn i) := by
  funext M0
  simp only [f_X6_comparingSign, g_X6_comparingSign, Int.cast_ofNat_Int, e_X6_isSign]
def g_X6_takeNumber (k : zK) (p1 : Int) (p2 : Int) (M0 : zM) : Option (zM × Int) :=
  zbr (M0 2 5) 2 (¬ M0 2 5 = 2) (some (M0, 0)) (zbr (M0 2 6) p1 (M0 2 6 < p1) (some (M0, 0)) (zbr (M0 2 6) p2 (M0 2 6 ≤ p2) (zlt (zst M0 2 7 (M0 2 6)) (fun M1 => zb1 (g_X6_step k M1) (fun M2 => some (M2, 1)))) (some (M0, 0))))
theorem e_X6_takeNumber {i : Nat} : f_X6_takeNumber (zKn i) 2 = g_X6_takeNumber (zKn i) := by
  funext p1 p2 M0
  simp only [f_X6_takeNumber, g_X6_takeNumber, Int.cast_ofNat_Int, e_X6_step]
def g_X6_takeSign (k : zK) (p1 : Int) (M0 : zM) : Option (zM × Int) :=
  zb1 (g_X6_isSign k p1 M0) (fun v1 => zbr v1 0 (¬ v1 = 0) (zb1 (g_X6_step k M0) (fun M3 => some (M3, 1))) (some (M0, 0)))
theorem e_X6_takeSign {i : Nat} : f_X6_takeSign (zKn i) 2 = g_X6_takeSign (zKn i) := by
  funext p1 M0
  simp only [f_X6_takeSign, g_X6_takeSign, Int.cast_ofNat_Int, e_X6_isSign, e_X6_step]
def gb_X6_readAny_13 (k : zK) (rc_X6_readAny : Nat → Int → Nat → zM → Option (zM × Int)) (rc_X6_readAll : Nat → Int → Nat → zM → Option (zM × Int)) (rc_X6_readOne : Nat → Int → Nat → zM → Option (zM × Int)) (l1 : Int) (l2 : Nat) (y3 : Int) (M0 : zM) : Option ((Int × zM) ⊕ ((zM) ⊕ (zM × Int))) :=
  zbr y3 700 (700 ≤ y3) (some (.inr (.inl M0))) (zb1 (g_X6_isWord k 2 M0) (fun v3 => zbr v3 0 (v3 = 0) (some (.inr (.inl M0))) (zb1 (g_X6_step k M0) (fun M5 => zbd (rc_X6_readAll 2 l1 l2 M5) (fun M7 v6 => zbr v6 0 (¬ v6 = 0) (zb1 (f_X3_putStep k l2 5 M7) (fun M8 => zlt (y3 + 1) (fun x9 => some (.inl (x9, M8))))) (some (.inr (.inr (M7, 0)))))))))
theorem eb_X6_readAny_13 {i : Nat} {rc_X6_readAny : Nat → Int → Nat → zM → Option (zM × Int)} {rc_X6_readAll : Nat → Int → Nat → zM → Option (zM × Int)} {rc_X6_readOne : Nat → Int → Nat → zM → Option (zM × Int)} : fb_X6_readAny_13 (zKn i) rc_X6_readAny rc_X6_readAll rc_X6_readOne 2 = gb_X6_readAny_13 (zKn i) rc_X6_readAny rc_X6_readAll rc_X6_readOne := by
  funext l1 l2 y3 M0
  simp only [fb_X6_readAny_13, gb_X6_readAny_13, Int.cast_ofNat_Int, e_X6_isWord, e_X6_step]
def gb_X6_readAll_13 (k : zK) (rc_X6_readAny : Nat → Int → Nat → zM → Option (zM × Int)) (rc_X6_readAll : Nat → Int → Nat → zM → Option (zM × Int)) (rc_X6_readOne : Nat → Int → Nat → zM → Option (zM × Int)) (l1 : Int) (l2 : Nat) (y3 : Int) (M0 : zM) : Option ((Int × zM) ⊕ ((zM) ⊕ (zM × Int))) :=
  zbr y3 700 (700 ≤ y3) (some (.inr (.inl M0))) (zb1 (g_X6_isWord k 3 M0) (fun v3 => zbr v3 0 (v3 = 0) (some (.inr (.inl M0))) (zb1 (g_X6_step k M0) (fun M5 => zbd (rc_X6_readOne 2 l1 l2 M5) (fun M7 v6 => zbr v6 0 (¬ v6 = 0) (zb1 (f_X3_putStep k l2 4 M7) (fun M8 => zlt (y3 + 1) (fun x9 => some (.inl (x9, M8))))) (some (.inr (.inr (M7, 0)))))))))
theorem eb_X6_readAll_13 {i : Nat} {rc_X6_readAny : Nat → Int → Nat → zM → Option (zM × Int)} {rc_X6_readAll : Nat → Int → Nat → zM → Option (zM × Int)} {rc_X6_readOne : Nat → Int → Nat → zM → Option (zM × Int)} : fb_X6_readAll_13 (zKn i) rc_X6_readAny rc_X6_readAll rc_X6_readOne 2 = gb_X6_readAll_13 (zKn i) rc_X6_readAny rc_X6_readAll rc_X6_readOne := by
  funext l1 l2 y3 M0
  simp only [fb_X6_readAll_13, gb_X6_readAll_13, Int.cast_ofNat_Int, e_X6_isWord, e_X6_step]
def g_X6_readAny (k : zK) (p1 : Int) (p2 : Nat) (M0 : zM) : Option (zM × Int) :=
  (fG_rd k 45).1 2 p1 p2 M0
theorem e_X6_readAny {i : Nat} : f_X6_readAny (zKn i) 2 = g_X6_readAny (zKn i) := by
  funext p1 p2 M0
  simp only [f_X6_readAny, g_X6_readAny, Int.cast_ofNat_Int]
def g_X6_readAll (k : zK) (p1 : Int) (p2 : Nat) (M0 : zM) : Option (zM × Int) :=
  (fG_rd k 45).2.1 2 p1 p2 M0
theorem e_X6_readAll {i : Nat} : f_X6_readAll (zKn i) 2 = g_X6_readAll (zKn i) := by
  funext p1 p2 M0
  simp only [f_X6_readAll, g_X6_readAll, Int.cast_ofNat_Int]
def g_X6_readOne (k : zK) (p1 : Int) (p2 : Nat) (M0 : zM) : Option (zM × Int) :=
  (fG_rd k 45).2.2 2 p1 p2 M0
theorem e_X6_readOne {i : Nat} : f_X6_readOne (zKn i) 2 = g_X6_readOne (zKn i) := by
  funext p1 p2 M0
  simp only [f_X6_readOne, g_X6_readOne, Int.cast_ofNat_Int]
def g_X6_readAsking (k : zK) (p1 : Int) (p2 : Nat) (M0 : zM) : Option (zM × Int) :=
  zb1 (zbr p1 4 (¬ p1 = 4) (some (99)) (some (100))) (fun x1 => zbd (g_X6_takeNumber k 0 x1 M0) (fun M3 v2 => zbr v2 0 (¬ v2 = 0) (zlt (M3 2 7) (fun x4 => zlt (M3 p2 7) (fun x5 => zb1 (g_X6_isWord k 1 M3) (fun v6 => zsp1 (zbr v6 0 (v6 = 0) (some (.inl M3)) (zb1 (g_X6_step k M3) (fun M8 => zbd (g_X6_readAny k 0 p2 M8) (fun M10 v9 => zbr v9 0 (¬ v9 = 0) (some (.inl M10)) (some (.inr (M10, 0))))))) (fun r => some r) (fun M11 => zb1 (f_X3_putAsking k p2 p1 x4 x5 M11) (fun M12 => some (M12, 1))))))) (some (M3, 0))))
theorem e_X6_readAsking {i : Nat} : f_X6_readAsking (zKn i) 2 = g_X6_readAsking (zKn i) := by
  funext p1 p2 M0
  simp only [f_X6_readAsking, g_X6_readAsking, Int.cast_ofNat_Int, e_X6_isWord, e_X6_readAny, e_X6_step, e_X6_takeNumber]
def g_X6_howWord (k : zK) (M0 : zM) : Option Int :=
  zb1 (g_X6_isWord k 12 M0) (fun v1 => zbr v1 0 (v1 = 0) (zb1 (g_X6_isWord k 13 M0) (fun v3 => zbr v3 0 (v3 = 0) (zb1 (g_X6_isWord k 14 M0) (fun v5 => zbr v5 0 (v5 = 0) (some (-1)) (some 2))) (some 1))) (some 0))
theorem e_X6_howWord {i : Nat} : f_X6_howWord (zKn i) 2 = g_X6_howWord (zKn i) := by
  funext M0
  simp only [f_X6_howWord, g_X6_howWord, Int.cast_ofNat_Int, e_X6_isWord]
def g_X6_readCarry (k : zK) (p1 : Nat) (M0 : zM) : Option (zM × Int) :=
  zb1 (g_X6_howWord k M0) (fun v1 => zbr v1 (-1) (¬ v1 = (-1)) (zb1 (g_X6_step k M0) (fun M3 => zbd (g_X6_takeNumber k 0 100 M3) (fun M5 v4 => zbr v4 0 (¬ v4 = 0) (zgd (0 ≤ v1 ∧ v1 < 3) (zlt (zst M5 (zfr k p1 14) v1.toNat (M5 2 7)) (fun M6 => some (M6, 1)))) (some (M5, 0))))) (some (M0, 0)))
theorem e_X6_readCarry {i : Nat} : f_X6_readCarry (zKn i) 2 = g_X6_readCarry (zKn i) := by
  funext p1 M0
  simp only [f_X6_readCarry, g_X6_readCarry, Int.cast_ofNat_Int, e_X6_howWord, e_X6_step, e_X6_takeNumber]
def g_X6_readCatch (k : zK) (p1 : Nat) (M0 : zM) : Option (zM × Int) :=
  zbd (g_X6_takeNumber k 0 10 M0) (fun M2 v1 => zbr v1 0 (¬ v1 = 0) (zlt (zst M2 p1 13 (M2 2 7)) (fun M3 => some (M3, 1))) (some (M2, 0)))
theorem e_X6_readCatch {i : Nat} : f_X6_readCatch (zKn i) 2 = g_X6_readCatch (zKn i) := by
  funext p1 M0
  simp only [f_X6_readCatch, g_X6_readCatch, Int.cast_ofNat_Int, e_X6_takeNumber]
def g_X6_readSea (k : zK) (p1 : Nat) (M0 : zM) : Option (zM × Int) :=
  zbd (g_X6_takeNumber k 0 99 M0) (fun M2 v1 => zbr v1 0 (¬ v1 = 0) (zlt (M2 2 7) (fun x3 => zbd (g_X6_takeNumber k 0 99 M2) (fun M5 v4 => zbr v4 0 (¬ v4 = 0) (zlt (M5 2 7) (fun x6 => zb1 (g_X6_isWord k 0 M5) (fun v7 => zsp1 (zbr v7 0 (v7 = 0) (some (.inl M5)) (zb1 (g_X6_step k M5) (fun M9 => zbd (g_X6_takeNumber k x6 99 M9) (fun M11 v10 => zbr v10 0 (¬ v10 = 0) (some (.inl M11)) (some (.inr (M11, 0))))))) (fun r => some r) (fun M12 => zb1 (f_X3_putSea k p1 x3 x6 (M12 2 7) M12) (fun M13 => some (M13, 1)))))) (some (M5, 0))))) (some (M2, 0)))
theorem e_X6_readSea {i : Nat} : f_X6_readSea (zKn i) 2 = g_X6_readSea (zKn i) := by
  funext p1 M0
  simp only [f_X6_readSea, g_X6_readSea, Int.cast_ofNat_Int, e_X6_isWord, e_X6_step, e_X6_takeNumber]
def g_X6_ruleWord (k : zK) (M0 : zM) : Option Int :=
  zb1 (g_X6_isWord k 5 M0) (fun v1 => zbr v1 0 (v1 = 0) (zb1 (g_X6_isWord k 6 M0) (fun v3 => zbr v3 0 (v3 = 0) (zb1 (g_X6_isWord k 7 M0) (fun v5 => zbr v5 0 (v5 = 0) (zb1 (g_X6_isWord k 8 M0) (fun v7 => zbr v7 0 (v7 = 0) (zb1 (g_X6_isWord k 9 M0) (fun v9 => zbr v9 0 (v9 = 0) (zb1 (g_X6_isWord k 10 M0) (fun v11 => zbr v11 0 (v11 = 0) (zb1 (g_X6_isWord k 11 M0) (fun v13 => zbr v13 0 (v13 = 0) (some (-1)) (some 6))) (some 5))) (some 4))) (some 3))) (some 2))) (some 1))) (some 0))
theorem e_X6_ruleWord {i : Nat} : f_X6_ruleWord (zKn i) 2 = g_X6_ruleWord (zKn i) := by
  funext M0
  simp only [f_X6_ruleWord, g_X6_ruleWord, Int.cast_ofNat_Int, e_X6_isWord]
def gb_X6_read_20 (k : zK) (l2 : Nat) (y3 : Int) (M0 : zM) : Option ((Int × zM) ⊕ ((zM) ⊕ (zM × Int))) :=
  zbr y3 40 (40 ≤ y3) (some (.inr (.inl M0))) (zbr (M0 2 5) 0 (M0 2 5 = 0) (some (.inr (.inl M0))) (zb1 (g_X6_ruleWord k M0) (fun v5 => zbr v5 (-1) (¬ v5 = (-1)) (zb1 (g_X6_step k M0) (fun M7 => zb2 (zbr v5 0 (¬ v5 = 0) (zbr v5 5 (¬ v5 = 5) (zbr v5 6 (¬ v5 = 6) (zbd (g_X6_readAsking k v5 l2 M7) (fun M9 v8 => some (v8, M9))) (zbd (g_X6_readCatch k l2 M7) (fun M11 v10 => some (v10, M11)))) (zbd (g_X6_readCarry k l2 M7) (fun M13 v12 => some (v12, M13)))) (zbd (g_X6_readSea k l2 M7) (fun M15 v14 => some (v14, M15)))) (fun x16 M17 => zbr x16 0 (x16 = 0) (some (.inr (.inr (M17, M17 2 3)))) (zbd (g_X6_takeSign k 59 M17) (fun M19 v18 => zbr v18 0 (¬ v18 = 0) (zlt (zst M19 l2 0 ((M19 l2 0) + 1)) (fun M20 => zlt (y3 + 1) (fun x21 => some (.inl (x21, M20))))) (some (.inr (.inr (M19, M19 2 3))))))))) (some (.inr (.inr (M0, M0 2 3)))))))
theorem eb_X6_read_20 {i : Nat} : fb_X6_read_20 (zKn i) 2 = gb_X6_read_20 (zKn i) := by
  funext l2 y3 M0
  simp only [fb_X6_read_20, gb_X6_read_20, Int.cast_ofNat_Int, e_X6_readAsking, e_X6_readCarry, e_X6_readCatch, e_X6_readSea, e_X6_ruleWord, e_X6_step, e_X6_takeSign]
def g_X6_read (k : zK) (p1 : Int) (p2 : Nat) (M0 : zM) : Option (zM × Int) :=
  zb1 (f_X3_clear k p2 M0) (fun M1 => zlt (zst M1 2 2 p1) (fun M2 => zlt (zst M2 2 4 0) (fun M3 => zb1 (g_X6_step k M3) (fun M4 => zsp1 (zw2 (gb_X6_read_20 k p2) zfu 0 M4) (fun r => some (r)) (fun M22 => zbr (M22 2 5) 0 (M22 2 5 = 0) (zb1 (f_X3_finish k p2 M22) (fun M23 => some (M23, (-1)))) (some (M22, M22 2 3)))))))
theorem e_X6_read {i : Nat} : f_X6_read (zKn i) 2 = g_X6_read (zKn i) := by
  funext p1 p2 M0
  simp only [f_X6_read, g_X6_read, Int.cast_ofNat_Int, e_X6_step, eb_X6_read_20]
def g_X10_law (k : zK) (p1 : Int) (M0 : zM) : Option (zM × Int) :=
  zsp1 (zbr p1 0 (p1 < 0) (some (.inl M0)) (zbr p1 (M0 2 1) (p1 ≤ M0 2 1) (zgd (ztag k (M0 1 11).toNat = 4 ∧ (M0 1 11).toNat ≠ 0) (zlt (M0 1 11).toNat (fun q1 => zbd (g_X6_read k p1 q1 M0) (fun M4 v3 => zlt (zst M4 1 12 v3) (fun M5 => zlt (zst M5 2 1 0) (fun M6 => zbr (M6 1 12) (-1) (M6 1 12 = (-1)) (zgd (ztag k (M6 1 10).toNat = 4 ∧ (M6 1 10).toNat ≠ 0) (zlt (M6 1 10).toNat (fun q7 => zgd (ztag k (M6 1 11).toNat = 4 ∧ (M6 1 11).toNat ≠ 0) (zlt (M6 1 11).toNat (fun q9 => zlt (zst M6 1 10 (q9 : Int)) (fun M11 => zlt (zst M11 1 11 (q7 : Int)) (fun M12 => zb1 (g_X10_forgetGround k M12) (fun M13 => zgd (ztag k (M13 1 10).toNat = 4 ∧ (M13 1 10).toNat ≠ 0) (zlt (M13 1 10).toNat (fun q14 => some (.inr (M13, M13 q14 0)))))))))))) (zbd (g_X10_refuse k 2 M6) (fun M17 v16 => some (.inr (M17, (-1))))))))))) (some (.inl M0)))) (fun r => some r) (fun M18 => zbd (g_X10_refuse k 0 M18) (fun M20 v19 => some (M20, (-2))))
theorem e_X10_law {i : Nat} : f_X10_law (zKn i) 1 = g_X10_law (zKn i) := by
  funext p1 M0
  simp only [f_X10_law, g_X10_law, Int.cast_ofNat_Int, zq_1_0, e_X10_forgetGround, e_X10_refuse, e_X6_read]
def g_X5_cutTo (k : zK) (p1 : Int) (M0 : zM) : Option Int :=
  zbl (M0 50 1) 0 (¬ M0 50 1 = 0) (zgd ((0 ≤ p1 * (M0 50 0) ∧ p1 * (M0 50 0) ≤ 9223372036854775807) ∧ 0 < M0 50 1 ∧ M0 50 1 ≤ 9223372036854775807) (some ((p1 * (M0 50 0)) / (M0 50 1)))) (some 0)
theorem e_X5_cutTo {i : Nat} : f_X5_cutTo (zKn i) 50 = g_X5_cutTo (zKn i) := by
  funext p1 M0
  simp only [f_X5_cutTo, g_X5_cutTo, Int.cast_ofNat_Int]
def gb_X9_weigh_9 (k : zK) (l1 : Int) (l2 : Int) (l4 : Int) (y5 : Int) (y7 : Int) (y9 : Int) (M0 : zM) : Option ((Int × Int × Int × zM) ⊕ (zM)) :=
  zbr y9 7 (7 ≤ y9) (some (.inr M0)) (zgd ((0 ≤ l2 * y5 ∧ l2 * y5 ≤ 9223372036854775807) ∧ 0 < y7 ∧ y7 ≤ 9223372036854775807) (zgd (0 ≤ (l1 * 7) + y9 ∧ (l1 * 7) + y9 < 70) (zlt (zst M0 49 ((l1 * 7) + y9).toNat ((1000000 - l2) + ((l2 * y5) / y7))) (fun M1 => zgd (zr (10 - l4)) (zlt (y5 * (10 - l4)) (fun x2 => zlt (y7 * 10) (fun x3 => zlt (y9 + 1) (fun x4 => some (.inl (x2, x3, x4, M1))))))))))
theorem eb_X9_weigh_9 {i : Nat} : fb_X9_weigh_9 (zKn i) 46 = gb_X9_weigh_9 (zKn i) := by
  funext l1 l2 l4 y5 y7 y9 M0
  simp only [fb_X9_weigh_9, gb_X9_weigh_9, Int.cast_ofNat_Int, zq_46_3]
def g_X9_weigh (k : zK) (p1 : Int) (p2 : Int) (p4 : Int) (M0 : zM) : Option zM :=
  zb1 (zw4 (gb_X9_weigh_9 k p1 p2 p4) zfu 1 1 0 M0) (fun M5 => some M5)
theorem e_X9_weigh {i : Nat} : f_X9_weigh (zKn i) 46 = g_X9_weigh (zKn i) := by
  funext p1 p2 p4 M0
  simp only [f_X9_weigh, g_X9_weigh, Int.cast_ofNat_Int, eb_X9_weigh_9]
def gb_X10_layOut_2 (k : zK) (y2 : Int) (M0 : zM) : Option ((Int × zM) ⊕ (zM)) :=
  zbr y2 (M0 4 18) (M0 4 18 ≤ y2) (some (.inr M0)) (zgd (0 ≤ y2 ∧ y2 < 10) (zb1 (g_X10_reckonLeft k (M0 13 y2.toNat) M0) (fun M1 => zb1 (g_X5_cutTo k 1000000 M1) (fun v2 => zgd (ztag k (M1 1 10).toNat = 4 ∧ (M1 1 10).toNat ≠ 0) (zlt (M1 1 10).toNat (fun q4 => zb1 (g_X9_weigh k y2 v2 (M1 q4 13) M1) (fun M6 => zlt (y2 + 1) (fun x7 => some (.inl (x7, M6))))))))))
theorem eb_X10_layOut_2 {i : Nat} : fb_X10_layOut_2 (zKn i) 1 21 = gb_X10_layOut_2 (zKn i) := by
  funext y2 M0
  simp only [fb_X10_layOut_2, gb_X10_layOut_2, Int.cast_ofNat_Int, zq_1_1, zq_1_7, zq_1_8, zq_4_10, e_X10_reckonLeft, e_X5_cutTo, e_X9_weigh]
def g_X10_layOut (k : zK) (M0 : zM) : Option zM :=
  zb1 (zw2 (gb_X10_layOut_2 k) zfu 0 M0) (fun M8 => some M8)
theorem e_X10_layOut {i : Nat} : f_X10_layOut (zKn i) 1 21 = g_X10_layOut (zKn i) := by
  funext M0
  simp only [f_X10_layOut, g_X10_layOut, Int.cast_ofNat_Int, eb_X10_layOut_2]
def gb_X10_sumFish_6 (k : zK) (l1 : Int) (l2 : Int) (y4 : Int) (y5 : Int) (M0 : zM) : Option ((Int × Int × zM) ⊕ (Int × zM)) :=
  zbr y5 256 (256 ≤ y5) (some (.inr (y4, M0))) (zb1 (f_X10_quarterOf k y5 M0) (fun v1 => zbr v1 l1 (¬ v1 = l1) (zlt (y5 + 1) (fun x3 => some (.inl (y4, x3, M0)))) (zgd (ztag k (M0 1 10).toNat = 4 ∧ (M0 1 10).toNat ≠ 0) (zlt (M0 1 10).toNat (fun q4 => zbd (g_X8_wordsOf k y5 l2 M0) (fun M7 v6 => zgd (ztag k v6.toNat = 20 ∧ ((zlen k v6.toNat : Nat) : Int) = 8) (zb1 (f_X3_first k q4 3 (v6.toNat) 0 M7) (fun v9 => zlt (y4 + v9) (fun x11 => zlt (y5 + 1) (fun x12 => some (.inl (x11, x12, M7))))))))))))
theorem eb_X10_sumFish_6 {i : Nat} {l1 : Int} {l2 : Int} : fb_X10_sumFish_6 (zKn i) 1 l1 l2 21 = gb_X10_sumFish_6 (zKn i) l1 l2 := by
  funext y4 y5 M0
  simp only [fb_X10_sumFish_6, gb_X10_sumFish_6, Int.cast_ofNat_Int, e_X8_wordsOf]
def g_X10_sumFish (k : zK) (p1 : Int) (p2 : Int) (M0 : zM) : Option (zM × Int) :=
  zb2 (zw3 (gb_X10_sumFish_6 k p1 p2) zfu 0 0 M0) (fun x13 M14 => some (M14, x13))
theorem e_X10_sumFish {i : Nat} {p1 : Int} {p2 : Int} : f_X10_sumFish (zKn i) 1 p1 p2 21 = g_X10_sumFish (zKn i) p1 p2 := by
  funext M0
  simp only [f_X10_sumFish, g_X10_sumFish, Int.cast_ofNat_Int, eb_X10_sumFish_6]
def g_X10_lean (k : zK) (p1 : Int) (p2 : Int) (M0 : zM) : Option (zM × Int) :=
  zbr p1 0 (p1 < 0) (some (M0, (-1))) (zbr p1 3 (3 < p1) (some (M0, (-1))) (zb1 (f_X10_isAge k p2 M0) (fun v1 => zbr v1 0 (¬ v1 = 0) (zbd (g_X10_viewAt k p2 M0) (fun M4 v3 => zgd (ztag k v3.toNat = 9) (zbd (f_X10_sumFish k 1 p1 p2 (v3.toNat) M4) (fun M7 v6 => some (M7, v6))))) (some (M0, (-1))))))
theorem e_X10_lean {i : Nat} : f_X10_lean (zKn i) 1 = g_X10_lean (zKn i) := by
  funext p1 p2 M0
  simp only [f_X10_lean, g_X10_lean, Int.cast_ofNat_Int, e_X10_viewAt]
def g_X10_learnt (k : zK) (p1 : Int) (p2 : Int) (M0 : zM) : Option Int :=
  zb1 (f_X10_isKind k p1 M0) (fun v1 => zbr v1 0 (v1 = 0) (some (-1)) (zb1 (f_X10_isPart k p2 M0) (fun v3 => zbr v3 0 (¬ v3 = 0) (zbr p2 0 (¬ p2 = 0) (zgd (0 ≤ p1 ∧ p1 < 16) (some ((M0 7 p1.toNat) + 2))) (zgd (0 ≤ p1 ∧ p1 < 16) (some ((M0 8 p1.toNat) + 1)))) (some (-1)))))
theorem e_X10_learnt {i : Nat} : f_X10_learnt (zKn i) 1 = g_X10_learnt (zKn i) := by
  funext p1 p2 M0
  simp only [f_X10_learnt, g_X10_learnt, Int.cast_ofNat_Int, zq_1_1, zq_4_4, zq_4_5]
def g_X10_left (k : zK) (p1 : Int) (p2 : Int) (p3 : Int) (M0 : zM) : Option (zM × Int) :=
  zb1 (f_X10_isCell k p1 M0) (fun v1 => zbr v1 0 (v1 = 0) (some (M0, (-1))) (zb1 (f_X10_isAge k p2 M0) (fun v3 => zbr v3 0 (v3 = 0) (some (M0, (-1))) (zb1 (f_X10_isPart k p3 M0) (fun v5 => zbr v5 0 (¬ v5 = 0) (zbd (g_X10_viewAt k p2 M0) (fun M8 v7 => zgd (ztag k v7.toNat = 9) (zb1 (f_X10_reckonLeft k 1 p1 (v7.toNat) M8) (fun M10 => zb1 (g_X5_part k p3 M10) (fun v11 => some (M10, v11)))))) (some (M0, (-1))))))))
theorem e_X10_left {i : Nat} : f_X10_left (zKn i) 1 = g_X10_left (zKn i) := by
  funext p1 p2 p3 M0
  simp only [f_X10_left, g_X10_left, Int.cast_ofNat_Int, zq_1_8, e_X10_viewAt, e_X5_part]
def g_X10_letter (k : zK) (p1 : Int) (p2 : Int) (p3 : Int) (p4 : Int) (M0 : zM) : Option (zM × Int) :=
  zb1 (f_X10_isHeight k p2 M0) (fun v1 => zsp1 (zbr v1 0 (v1 = 0) (some (.inl M0)) (zb1 (f_X10_areAges k p3 p4 M0) (fun v3 => zbr v3 0 (¬ v3 = 0) (zbr (M0 4 19) 40 (M0 4 19 < 40) (zlt (M0 4 19) (fun x5 => zb1 (zbr p1 0 (p1 = 0) (some (0)) (some (1))) (fun x6 => zgd (0 ≤ x5 ∧ x5 < 40) (zlt (zst M0 14 x5.toNat (x6)) (fun M7 => zgd (0 ≤ x5 ∧ x5 < 40) (zlt (zst M7 15 x5.toNat (p2)) (fun M8 => zgd (0 ≤ x5 ∧ x5 < 40) (zlt (zst M8 16 x5.toNat (p3)) (fun M9 => zgd (0 ≤ x5 ∧ x5 < 40) (zlt (zst M9 17 x5.toNat (p4)) (fun M10 => zlt (zst M10 4 19 ((M10 4 19) + 1)) (fun M11 => some (.inr (M11, M11 4 19)))))))))))))) (zbd (g_X10_refuse k 1 M0) (fun M13 v12 => some (.inr (M13, v12))))) (some (.inl M0))))) (fun r => some r) (fun M14 => zbd (g_X10_refuse k 0 M14) (fun M16 v15 => some (M16, v15))))
theorem e_X10_letter {i : Nat} : f_X10_letter (zKn i) 1 = g_X10_letter (zKn i) := by
  funext p1 p2 p3 p4 M0
  simp only [f_X10_letter, g_X10_letter, Int.cast_ofNat_Int, zq_1_1, zq_4_11, zq_4_12, zq_4_13, zq_4_14, e_X10_refuse]
def gb_X10_levels_25 (k : zK) (l1 : Int) (l2 : Int) (M0 : zM) (y3 : Int) (y4 : Int) (y5 : Int) : Option ((Int × Int × Int) ⊕ (Int × Int)) :=
  zbr y5 (M0 4 19) (M0 4 19 ≤ y5) (some (.inr (y3, y4))) (zgd (0 ≤ y5 ∧ y5 < 40) (zb1 (zbr (M0 14 y5.toNat) 1 (¬ M0 14 y5.toNat = 1) (some (0)) (some (1))) (fun x5 => zb1 (zbr x5 0 (x5 = 0) (some (y4)) (zgd (0 ≤ y5 ∧ y5 < 40) (zbr (M0 16 y5.toNat) l1 (M0 16 y5.toNat < l1) (some (y4)) (zgd (0 ≤ y5 ∧ y5 < 40) (zgd (zr y4 ∧ zr ((M0 15 y5.toNat) - 1)) (zlt (zmin y4 ((M0 15 y5.toNat) - 1)) (fun x6 => some (x6)))))))) (fun x7 => zbr x5 0 (¬ x5 = 0) (zlt (y5 + 1) (fun x8 => some (.inl (y3, x7, x8)))) (zgd (0 ≤ y5 ∧ y5 < 40) (zbr (M0 17 y5.toNat) l1 (l1 < M0 17 y5.toNat) (zlt (y5 + 1) (fun x9 => some (.inl (y3, x7, x9)))) (zgd (0 ≤ y5 ∧ y5 < 40) (zgd (zr y3 ∧ zr (M0 15 y5.toNat)) (zlt (zmax y3 (M0 15 y5.toNat)) (fun x10 => zlt (y5 + 1) (fun x11 => some (.inl (x10, x7, x11)))))))))))))
theorem eb_X10_levels_25 {i : Nat} : fb_X10_levels_25 (zKn i) 1 = gb_X10_levels_25 (zKn i) := by
  funext l1 l2 M0 y3 y4 y5
  simp only [fb_X10_levels_25, gb_X10_levels_25, Int.cast_ofNat_Int, zq_1_1, zq_4_11, zq_4_12, zq_4_13, zq_4_14]
def g_X10_levels (k : zK) (p1 : Int) (p2 : Int) (M0 : zM) : Option Int :=
  zb1 (f_X10_isAge k p1 M0) (fun v1 => zbr v1 0 (v1 = 0) (some (-1)) (zb1 (f_X10_isPart k p2 M0) (fun v3 => zbr v3 0 (¬ v3 = 0) (zb2 (zw3 (gb_X10_levels_25 k p1 p2 M0) zfu 0 99 0) (fun x12 x13 => zbr x12 x13 (x12 ≤ x13) (zbr p2 0 (¬ p2 = 0) (some x13) (some x12)) (some (-1)))) (some (-1)))))
theorem e_X10_levels {i : Nat} : f_X10_levels (zKn i) 1 = g_X10_levels (zKn i) := by
  funext p1 p2 M0
  simp only [f_X10_levels, g_X10_levels, Int.cast_ofNat_Int, eb_X10_levels_25]
def g_X10_lived (k : zK) (p1 : Int) (p2 : Int) (p3 : Int) (p4 : Int) (M0 : zM) : Option (zM × Int) :=
  zb1 (f_X10_isCell k p1 M0) (fun v1 => zbr v1 0 (v1 = 0) (some (M0, (-1))) (zb1 (f_X10_areAges k p2 p3 M0) (fun v3 => zbr v3 0 (v3 = 0) (some (M0, (-1))) (zb1 (f_X10_isPart k p4 M0) (fun v5 => zbr v5 0 (¬ v5 = 0) (zb1 (g_X10_settle k M0) (fun M7 => zbd (g_X10_sumLives k p2 p3 M7) (fun M9 v8 => zbl v8 0 (¬ v8 = 0) (zbd (g_X10_sumLivesIn k p1 p2 p3 M9) (fun M11 v10 => zb1 (g_X5_put k v10 v8 M11) (fun M12 => zb1 (g_X5_part k p4 M12) (fun v13 => some (M12, v13))))) (some (M9, (-1)))))) (some (M0, (-1))))))))
theorem e_X10_lived {i : Nat} : f_X10_lived (zKn i) 1 = g_X10_lived (zKn i) := by
  funext p1 p2 p3 p4 M0
  simp only [f_X10_lived, g_X10_lived, Int.cast_ofNat_Int, zq_1_8, e_X10_settle, e_X10_sumLives, e_X10_sumLivesIn, e_X5_part, e_X5_put]
def g_X10_mud (k : zK) (p1 : Int) (p2 : Int) (M0 : zM) : Option (zM × Int) :=
  zb1 (f_X10_isCell k p1 M0) (fun v1 => zbr v1 0 (¬ v1 = 0) (zgd (0 ≤ p1 ∧ p1 < 256) (zsp1 (zbr (M0 19 p1.toNat) (-1) (¬ M0 19 p1.toNat = (-1)) (some (.inl M0)) (zbr (M0 4 15) 40 (M0 4 15 < 40) (zlt (zst M0 4 15 ((M0 4 15) + 1)) (fun M3 => some (.inl M3))) (zbd (g_X10_refuse k 1 M0) (fun M5 v4 => some (.inr (M5, v4)))))) (fun r => some r) (fun M6 => zb1 (zbr p2 0 (p2 = 0) (some (0)) (some (1))) (fun x7 => zgd (0 ≤ p1 ∧ p1 < 256) (zlt (zst M6 19 p1.toNat (x7)) (fun M8 => some (M8, M8 4 15))))))) (zbd (g_X10_refuse k 0 M0) (fun M10 v9 => some (M10, v9))))
theorem e_X10_mud {i : Nat} : f_X10_mud (zKn i) 1 = g_X10_mud (zKn i) := by
  funext p1 p2 M0
  simp only [f_X10_mud, g_X10_mud, Int.cast_ofNat_Int, zq_1_1, zq_4_3, e_X10_refuse]
def g_X10_place (k : zK) (p1 : Int) (M0 : zM) : Option (zM × Int) :=
  zb1 (f_X10_isCell k p1 M0) (fun v1 => zsp1 (zbr v1 0 (v1 = 0) (some (.inl M0)) (zb1 (f_X7_isPlace k 4 p1 M0) (fun v3 => zbr v3 0 (v3 = 0) (zbr (M0 4 18) 10 (M0 4 18 < 10) (zlt (M0 4 18) (fun x5 => zgd (0 ≤ x5 ∧ x5 < 10) (zlt (zst M0 13 x5.toNat (p1)) (fun M6 => zlt (zst M6 4 18 ((M6 4 18) + 1)) (fun M7 => zb1 (g_X9_forget k M7) (fun M8 => some (.inr (M8, x5)))))))) (zbd (g_X10_refuse k 1 M0) (fun M10 v9 => some (.inr (M10, v9))))) (some (.inl M0))))) (fun r => some r) (fun M11 => zbd (g_X10_refuse k 0 M11) (fun M13 v12 => some (M13, v12))))
theorem e_X10_place {i : Nat} : f_X10_place (zKn i) 1 = g_X10_place (zKn i) := by
  funext p1 M0
  simp only [f_X10_place, g_X10_place, Int.cast_ofNat_Int, zq_1_1, zq_1_7, zq_4_10, e_X10_refuse, e_X9_forget]
def gb_X1_countParts_4 (k : zK) (y1 : Int) (y2 : Int) (M0 : zM) : Option ((Int × Int × zM) ⊕ (Int × zM)) :=
  zbr y2 256 (256 ≤ y2) (some (.inr (y1, M0))) (zbd (g_X1_spread k y2 M0) (fun M2 v1 => zbr v1 0 (v1 ≤ 0) (zlt (y2 + 1) (fun x3 => some (.inl (y1, x3, M2)))) (zlt (y1 + 1) (fun x4 => zlt (y2 + 1) (fun x5 => some (.inl (x4, x5, M2)))))))
theorem eb_X1_countParts_4 {i : Nat} : fb_X1_countParts_4 (zKn i) 43 = gb_X1_countParts_4 (zKn i) := by
  funext y1 y2 M0
  simp only [fb_X1_countParts_4, gb_X1_countParts_4, Int.cast_ofNat_Int, e_X1_spread]
def g_X1_countParts (k : zK) (M0 : zM) : Option (zM × Int) :=
  zb2 (zw3 (gb_X1_countParts_4 k) zfu 0 0 M0) (fun x6 M7 => some (M7, x6))
theorem e_X1_countParts {i : Nat} : f_X1_countParts (zKn i) 43 = g_X1_countParts (zKn i) := by
  funext M0
  simp only [f_X1_countParts, g_X1_countParts, Int.cast_ofNat_Int, eb_X1_countParts_4]
def gb_X10_rest_44 (k : zK) (l2 : Int) (l3 : Int) (l4 : Int) (y6 : Int) (y7 : Int) (y8 : Int) (M0 : zM) : Option ((Int × Int × Int × zM) ⊕ (Int × Int × zM)) :=
  zbr y8 256 (256 ≤ y8) (some (.inr (y6, y7, M0))) (zgd (0 ≤ y8 ∧ y8 < 256) (zsp4 (zbr (M0 22 y8.toNat) 0 (M0 22 y8.toNat = 0) (some (.inl (y6, y7, y8, M0))) (zb1 (g_X8_standsTo k y8 l3 M0) (fun v8 => zbr v8 l2 (v8 < l2) (some (.inl (y6, y7, y8, M0))) (zgd (((1 : Int) = 0 ∨ (1 : Int) = 1) ∧ 0 ≤ y8 ∧ y8 < 256) (zlt (zst M0 44 y8.toNat (1)) (fun M10 => zb1 (zbr 1 0 ((1 : Int) = 0) (some (0)) (some (1))) (fun x11 => zlt (y6 + x11) (fun x12 => zgd (0 ≤ y8 ∧ y8 < 256) (zsp1 (zbr (M10 22 y8.toNat) 0 (M10 22 y8.toNat = 0) (some (.inl y8)) (zbr 1 0 (¬ (1 : Int) = 0) (some (.inl y8)) (zlt (y7 + 1) (fun x13 => zlt (y8 + 1) (fun x14 => some (.inr (.inr (.inl (x12, x13, x14, M10))))))))) (fun r => some r) (fun x15 => zlt (y7 + 0) (fun x16 => zlt (x15 + 1) (fun x17 => some (.inr (.inl (x12, x16, x17, M10))))))))))))))) (fun r => some r) (fun x18 x19 x20 M21 => zgd (((0 : Int) = 0 ∨ (0 : Int) = 1) ∧ 0 ≤ x20 ∧ x20 < 256) (zlt (zst M21 44 x20.toNat (0)) (fun M22 => zb1 (zbr 0 0 ((0 : Int) = 0) (some (0)) (some (1))) (fun x23 => zlt (x18 + x23) (fun x24 => zgd (0 ≤ x20 ∧ x20 < 256) (zsp1 (zbr (M22 22 x20.toNat) 0 (M22 22 x20.toNat = 0) (some (.inl x20)) (zbr 0 0 (¬ (0 : Int) = 0) (some (.inl x20)) (zlt (x19 + 1) (fun x25 => zlt (x20 + 1) (fun x26 => some (.inr (.inl (x24, x25, x26, M22)))))))) (fun r => some r) (fun x27 => zlt (x19 + 0) (fun x28 => zlt (x27 + 1) (fun x29 => some (.inl (x24, x28, x29, M22)))))))))))))
theorem eb_X10_rest_44 {i : Nat} {l2 : Int} {l3 : Int} {l4 : Int} : fb_X10_rest_44 (zKn i) 1 l2 l3 l4 21 = gb_X10_rest_44 (zKn i) l2 l3 l4 := by
  funext y6 y7 y8 M0
  simp only [fb_X10_rest_44, gb_X10_rest_44, Int.cast_ofNat_Int, zq_1_6, zq_21_0, zq_43_0, e_X8_standsTo]
def g_X10_rest (k : zK) (p1 : Int) (p2 : Int) (p3 : Int) (p4 : Int) (M0 : zM) : Option (zM × Int) :=
  zb1 (f_X10_isAge k p1 M0) (fun v1 => zbr v1 0 (v1 = 0) (some (M0, (-1))) (zb1 (f_X10_isWave k p2 p3 M0) (fun v3 => zbr v3 0 (v3 = 0) (some (M0, (-1))) (zbr p4 0 (p4 < 0) (some (M0, (-1))) (zbr p4 2 (p4 ≤ 2) (zbd (g_X10_viewAt k p1 M0) (fun M6 v5 => zgd (ztag k v5.toNat = 9) (zb3 (zw4 (fb_X10_rest_44 k 1 p2 p3 p4 (v5.toNat)) zfu 0 0 0 M6) (fun x30 x31 M32 => zbr p4 1 (¬ p4 = 1) (zbr p4 0 (¬ p4 = 0) (some (M32, x31)) (some (M32, x30))) (zbd (g_X1_countParts k M32) (fun M34 v33 => some (M34, v33))))))) (some (M0, (-1))))))))
theorem e_X10_rest {i : Nat} : f_X10_rest (zKn i) 1 = g_X10_rest (zKn i) := by
  funext p1 p2 p3 p4 M0
  simp only [f_X10_rest, g_X10_rest, Int.cast_ofNat_Int, zq_1_6, e_X10_viewAt, e_X1_countParts]
def g_X10_restore (k : zK) (p1 : Int) (M0 : zM) : Option (zM × Int) :=
  zsp1 (zbr p1 0 (p1 < 0) (some (.inl M0)) (zbr p1 (M0 1 13) (M0 1 13 ≤ p1) (some (.inl M0)) (zbr p1 3 (3 ≤ p1) (some (.inl M0)) (zgd (0 ≤ p1 ∧ p1 < 3) (if (M0 20 p1.toNat).toNat = 0 then (some (.inl M0)) else (zgd (0 ≤ p1 ∧ p1 < 3) (zgd (ztag k (M0 20 p1.toNat).toNat = 8 ∧ (M0 20 p1.toNat).toNat ≠ 0) (zb1 (f_X7_take k 4 ((M0 20 p1.toNat).toNat) M0) (fun M2 => zb1 (g_X10_forgetGround k M2) (fun M3 => some (.inr (M3, 1)))))))))))) (fun r => some r) (fun M4 => zbd (g_X10_refuse k 0 M4) (fun M6 v5 => some (M6, 0)))
theorem e_X10_restore {i : Nat} : f_X10_restore (zKn i) 1 = g_X10_restore (zKn i) := by
  funext p1 M0
  simp only [f_X10_restore, g_X10_restore, Int.cast_ofNat_Int, zq_1_1, zq_1_2, e_X10_forgetGround, e_X10_refuse]
def gb_X10_right_51 (k : zK) (l1 : Int) (l2 : Int) (l3 : Int) (l5 : Int) (y7 : Int) (y9 : Int) (M0 : zM) : Option ((Int × Int × zM) ⊕ (Int × zM)) :=
  zbr y9 4 (4 ≤ y9) (some (.inr (y7, M0))) (zbr y9 l1 (¬ y9 = l1) (zbd (g_X10_sumFish k y9 l2 M0) (fun M11 v10 => zgd (zr v10) (zlt (y7 + v10) (fun x12 => zlt (y9 + 1) (fun x13 => some (.inl (x12, x13, M11))))))) (zlt (y7 + l5) (fun x14 => zlt (y9 + 1) (fun x15 => some (.inl (x14, x15, M0))))))
theorem eb_X10_right_51 {i : Nat} {l1 : Int} {l2 : Int} {l3 : Int} : fb_X10_right_51 (zKn i) 1 l1 l2 l3 21 = gb_X10_right_51 (zKn i) l1 l2 l3 := by
  funext l5 y7 y9 M0
  simp only [fb_X10_right_51, gb_X10_right_51, Int.cast_ofNat_Int, e_X10_sumFish]
def gb_X10_right_98 (k : zK) (l1 : Int) (l3 : Int) (l5 : Int) (l7 : Int) (M0 : zM) (y9 : Int) (y11 : Int) (y13 : Int) : Option ((Int × Int × Int) ⊕ (Int × Int)) :=
  zbr y13 (M0 4 17) (M0 4 17 ≤ y13) (some (.inr (y9, y11))) (zgd (0 ≤ y13 ∧ y13 < 60) (zbr (M0 10 y13.toNat) 0 (¬ M0 10 y13.toNat = 0) (zlt (y13 + 1) (fun x18 => some (.inl (y9, y11, x18)))) (zlt (y11 + 1) (fun x19 => zgd (0 ≤ y13 ∧ y13 < 60) (zb1 (f_X10_quarterOf k (M0 9 y13.toNat) M0) (fun v20 => zbr v20 l1 (¬ v20 = l1) (zlt (y9 + 0) (fun x22 => zlt (y13 + 1) (fun x23 => some (.inl (x22, x19, x23))))) (zlt (y9 + 1) (fun x24 => zlt (y13 + 1) (fun x25 => some (.inl (x24, x19, x25)))))))))))
theorem eb_X10_right_98 {i : Nat} : fb_X10_right_98 (zKn i) 1 = gb_X10_right_98 (zKn i) := by
  funext l1 l3 l5 l7 M0 y9 y11 y13
  simp only [fb_X10_right_98, gb_X10_right_98, Int.cast_ofNat_Int, zq_1_1, zq_4_6, zq_4_7]
def g_X10_right (k : zK) (p1 : Int) (p2 : Int) (p3 : Int) (M0 : zM) : Option (zM × Int) :=
  zbr p1 0 (p1 < 0) (some (M0, (-1))) (zbr p1 3 (3 < p1) (some (M0, (-1))) (zb1 (f_X10_isAge k p2 M0) (fun v1 => zbr v1 0 (v1 = 0) (some (M0, (-1))) (zb1 (f_X10_isPart k p3 M0) (fun v3 => zbr v3 0 (¬ v3 = 0) (zbd (g_X10_viewAt k p2 M0) (fun M6 v5 => zgd (ztag k v5.toNat = 9) (zbd (f_X10_sumFish k 1 p1 p2 (v5.toNat) M6) (fun M9 v8 => zgd (zr v8) (zb2 (zw3 (fb_X10_right_51 k 1 p1 p2 p3 (v5.toNat) v8) zfu 0 0 M9) (fun x16 M17 => zb2 (zw3 (gb_X10_right_98 k p1 p3 v8 x16 M17) zfu 0 0 0) (fun x26 x27 => zbl v8 0 (v8 = 0) (some (M17, (-1))) (zbl x27 0 (¬ x27 = 0) (zb1 (g_X5_put k (x26 * x16) (v8 * x27) M17) (fun M28 => zb1 (g_X5_part k p3 M28) (fun v29 => some (M28, v29)))) (some (M17, (-1))))))))))) (some (M0, (-1))))))))
theorem e_X10_right {i : Nat} : f_X10_right (zKn i) 1 = g_X10_right (zKn i) := by
  funext p1 p2 p3 M0
  simp only [f_X10_right, g_X10_right, Int.cast_ofNat_Int, zq_1_8, e_X10_viewAt, e_X5_part, e_X5_put, eb_X10_right_98]
def gb_X10_surestFind_5 (k : zK) (l1 : Int) (l2 : Int) (M0 : zM) (y3 : Int) (y4 : Int) : Option ((Int × Int) ⊕ (Int)) :=
  zbr y4 (M0 4 17) (M0 4 17 ≤ y4) (some (.inr y3)) (zgd (0 ≤ y4 ∧ y4 < 60) (zbr (M0 9 y4.toNat) l1 (¬ M0 9 y4.toNat = l1) (zlt (y4 + 1) (fun x1 => some (.inl (y3, x1)))) (zgd (0 ≤ y4 ∧ y4 < 60) (zbr (M0 11 y4.toNat) l2 (l2 < M0 11 y4.toNat) (zlt (y4 + 1) (fun x2 => some (.inl (y3, x2)))) (zgd (0 ≤ y4 ∧ y4 < 60) (zbr l2 (M0 12 y4.toNat) (M0 12 y4.toNat < l2) (zlt (y4 + 1) (fun x3 => some (.inl (y3, x3)))) (zgd (0 ≤ y4 ∧ y4 < 60) (zb1 (zbr (M0 10 y4.toNat) 0 (¬ M0 10 y4.toNat = 0) (some (3)) (some (2))) (fun x4 => zgd (zr y3 ∧ zr x4) (zlt (zmax y3 x4) (fun x5 => zlt (y4 + 1) (fun x6 => some (.inl (x5, x6))))))))))))))
theorem eb_X10_surestFind_5 {i : Nat} : fb_X10_surestFind_5 (zKn i) 1 = gb_X10_surestFind_5 (zKn i) := by
  funext l1 l2 M0 y3 y4
  simp only [fb_X10_surestFind_5, gb_X10_surestFind_5, Int.cast_ofNat_Int, zq_1_1, zq_4_6, zq_4_7, zq_4_8, zq_4_9]
def g_X10_surestFind (k : zK) (p1 : Int) (p2 : Int) (M0 : zM) : Option Int :=
  zb1 (zw2 (gb_X10_surestFind_5 k p1 p2 M0) zfu 0 0) (fun x7 => some x7)
theorem e_X10_surestFind {i : Nat} : f_X10_surestFind (zKn i) 1 = g_X10_surestFind (zKn i) := by
  funext p1 p2 M0
  simp only [f_X10_surestFind, g_X10_surestFind, Int.cast_ofNat_Int, eb_X10_surestFind_5]
def g_X10_say (k : zK) (p1 : Int) (p2 : Int) (M0 : zM) : Option (zM × Int) :=
  zb1 (f_X10_isCell k p1 M0) (fun v1 => zbr v1 0 (v1 = 0) (some (M0, (-2))) (zb1 (f_X10_isAge k p2 M0) (fun v3 => zbr v3 0 (¬ v3 = 0) (zbd (g_X10_viewAt k p2 M0) (fun M6 v5 => zgd (ztag k v5.toNat = 9) (zgd (0 ≤ p1 ∧ p1 < 256) (zbr (M6 (zfr k (v5.toNat) 0) p1.toNat) 0 (¬ M6 (zfr k (v5.toNat) 0) p1.toNat = 0) (zb1 (g_X10_surestFind k p1 p2 M6) (fun v8 => zbr v8 0 (v8 = 0) (zb1 (f_X10_reckonLeft k 1 p1 (v5.toNat) M6) (fun M10 => zbl (2 * (M10 50 0)) (M10 50 1) (2 * (M10 50 0) < M10 50 1) (some (M10, 0)) (some (M10, 1)))) (some (M6, v8)))) (some (M6, (-1))))))) (some (M0, (-2))))))
theorem e_X10_say {i : Nat} : f_X10_say (zKn i) 1 = g_X10_say (zKn i) := by
  funext p1 p2 M0
  simp only [f_X10_say, g_X10_say, Int.cast_ofNat_Int, zq_1_8, e_X10_surestFind, e_X10_viewAt]
def g_X10_sea (k : zK) (p1 : Int) (p2 : Int) (M0 : zM) : Option Int :=
  zb1 (f_X10_isAge k p1 M0) (fun v1 => zbr v1 0 (v1 = 0) (some (-1)) (zb1 (f_X10_isPart k p2 M0) (fun v3 => zbr v3 0 (¬ v3 = 0) (zbr p2 0 (¬ p2 = 0) (zgd (ztag k (M0 1 10).toNat = 4 ∧ (M0 1 10).toNat ≠ 0) (zlt (M0 1 10).toNat (fun q5 => zgd (0 ≤ p1 ∧ p1 < 100) (some (M0 (zfr k q5 9) p1.toNat))))) (zgd (ztag k (M0 1 10).toNat = 4 ∧ (M0 1 10).toNat ≠ 0) (zlt (M0 1 10).toNat (fun q7 => zgd (0 ≤ p1 ∧ p1 < 100) (some (M0 (zfr k q7 8) p1.toNat)))))) (some (-1)))))
theorem e_X10_sea {i : Nat} : f_X10_sea (zKn i) 1 = g_X10_sea (zKn i) := by
  funext p1 p2 M0
  simp only [f_X10_sea, g_X10_sea, Int.cast_ofNat_Int]
def gb_X9_lay_27 (k : zK) (rc_X9_lay : Nat → Int → Int → Int → zM → Option zM) (l1 : Int) (l2 : Int) (l3 : Int) (l5 : Int) (y6 : Int) (M0 : zM) : Option ((Int × zM) ⊕ (zM)) :=
  zb1 (zbr l5 0 (l5 = 0) (some (0)) (some (l2))) (fun x2 => zbr y6 x2 (y6 < x2) (some (.inr M0)) (zgd (0 ≤ l1 ∧ l1 < 10) (zlt (zst M0 48 l1.toNat (y6)) (fun M3 => zgd (0 ≤ (l1 * 7) + y6 ∧ (l1 * 7) + y6 < 70) (zgd (0 ≤ l3 * (M3 49 ((l1 * 7) + y6).toNat) ∧ l3 * (M3 49 ((l1 * 7) + y6).toNat) ≤ 9223372036854775807) (zlt ((l3 * (M3 49 ((l1 * 7) + y6).toNat)) / 1000000) (fun x4 => zbr l5 0 (¬ l5 = 0) (zbl x4 (M3 46 1) (M3 46 1 ≤ x4) (zlt (y6 + (-1)) (fun x5 => some (.inl (x5, M3)))) (zlt (zst M3 46 1 x4) (fun M6 => zgd (0 ≤ (10 : Int) ∧ (10 : Int) ≤ 10 ∧ (10 : Int) ≤ 10) (zlt (zcp M6 48 47 (Int.toNat 10)) (fun M7 => zlt (y6 + (-1)) (fun x8 => some (.inl (x8, M7)))))))) (zb1 (rc_X9_lay 46 (l1 + 1) (l2 - y6) x4 M3) (fun M9 => zlt (y6 + (-1)) (fun x10 => some (.inl (x10, M9))))))))))))
theorem eb_X9_lay_27 {i : Nat} {rc_X9_lay : Nat → Int → Int → Int → zM → Option zM} : fb_X9_lay_27 (zKn i) rc_X9_lay 46 = gb_X9_lay_27 (zKn i) rc_X9_lay := by
  funext l1 l2 l3 l5 y6 M0
  simp only [fb_X9_lay_27, gb_X9_lay_27, Int.cast_ofNat_Int, zq_46_0, zq_46_2, zq_46_3]
def g_X9_lay (k : zK) (p1 : Int) (p2 : Int) (p3 : Int) (M0 : zM) : Option zM :=
  (fG_lay k 12) 46 p1 p2 p3 M0
theorem e_X9_lay {i : Nat} : f_X9_lay (zKn i) 46 = g_X9_lay (zKn i) := by
  funext p1 p2 p3 M0
  simp only [f_X9_lay, g_X9_lay, Int.cast_ofNat_Int]
def g_X9_choose (k : zK) (p1 : Int) (p2 : Int) (p3 : Int) (M0 : zM) : Option zM :=
  zlt (zst M0 46 5 p1) (fun M1 => zlt (zst M1 46 6 p2) (fun M2 => zlt (zst M2 46 4 p3) (fun M3 => zlt (zst M3 46 1 1000001) (fun M4 => zb1 (g_X9_lay k 0 p1 1000000 M4) (fun M5 => some M5)))))
theorem e_X9_choose {i : Nat} : f_X9_choose (zKn i) 46 = g_X9_choose (zKn i) := by
  funext p1 p2 p3 M0
  simp only [f_X9_choose, g_X9_choose, Int.cast_ofNat_Int, e_X9_lay]
def g_X9_isOf (k : zK) (p1 : Int) (p2 : Int) (M0 : zM) : Option Int :=
  zbr (M0 46 6) p2 (¬ M0 46 6 = p2) (some 0) (zbr (M0 46 5) p1 (¬ M0 46 5 = p1) (some 0) (some 1))
theorem e_X9_isOf {i : Nat} : f_X9_isOf (zKn i) 46 = g_X9_isOf (zKn i) := by
  funext p1 p2 M0
  simp only [f_X9_isOf, g_X9_isOf, Int.cast_ofNat_Int]
def g_X10_ship (k : zK) (p1 : Int) (p2 : Int) (p3 : Int) (M0 : zM) : Option (zM × Int) :=
  zbr p1 1 (p1 < 1) (some (M0, (-1))) (zbr p1 6 (6 < p1) (some (M0, (-1))) (zb1 (f_X10_isAge k p2 M0) (fun v1 => zbr v1 0 (v1 = 0) (some (M0, (-1))) (zbr (M0 4 18) 0 (¬ M0 4 18 = 0) (zlt (p3 - 10) (fun x3 => zsp0 (zbr p3 0 (p3 = 0) (some (.inl ())) (zbr p3 10 (p3 < 10) (some (.inr (M0, (-1)))) (zbr x3 (M0 4 18) (x3 < M0 4 18) (some (.inl ())) (some (.inr (M0, (-1))))))) (fun r => some r) (zb1 (g_X9_isOf k p1 p2 M0) (fun v4 => zb1 (zbr v4 0 (¬ v4 = 0) (some (M0)) (zbd (g_X10_viewAt k p2 M0) (fun M7 v6 => zgd (ztag k v6.toNat = 9) (zb1 (f_X10_layOut k 1 (v6.toNat) M7) (fun M9 => zb1 (g_X9_choose k p1 p2 (M9 4 18) M9) (fun M10 => some (M10))))))) (fun M11 => zbr p3 0 (¬ p3 = 0) (zgd (0 ≤ x3 ∧ x3 < 10) (some (M11, M11 47 x3.toNat))) (some (M11, 1000000 - (M11 46 1)))))))) (some (M0, (-1)))))))
theorem e_X10_ship {i : Nat} : f_X10_ship (zKn i) 1 = g_X10_ship (zKn i) := by
  funext p1 p2 p3 M0
  simp only [f_X10_ship, g_X10_ship, Int.cast_ofNat_Int, zq_1_1, zq_1_7, zq_46_0, e_X10_viewAt, e_X9_choose, e_X9_isOf]
def gb_X10_shore_20 (k : zK) (M0 : zM) (y3 : Int) (y4 : Int) : Option ((Int × Int) ⊕ (Int)) :=
  zbr y4 256 (256 ≤ y4) (some (.inr y3)) (zb1 (f_X10_beside k y4 2 M0) (fun v6 => zb1 (f_X10_beside k y4 3 M0) (fun v8 => zb1 (zbr v6 (-1) (v6 = (-1)) (some (y3)) (zgd (0 ≤ y4 ∧ y4 < 256) (zgd (0 ≤ v6 ∧ v6 < 256) (zbr (M0 22 y4.toNat) (M0 22 v6.toNat) (M0 22 y4.toNat = M0 22 v6.toNat) (some (y3)) (zlt (y3 + 1) (fun x10 => some (x10))))))) (fun x11 => zbr v8 (-1) (v8 = (-1)) (zlt (y4 + 1) (fun x12 => some (.inl (x11, x12)))) (zgd (0 ≤ y4 ∧ y4 < 256) (zgd (0 ≤ v8 ∧ v8 < 256) (zbr (M0 22 y4.toNat) (M0 22 v8.toNat) (M0 22 y4.toNat = M0 22 v8.toNat) (zlt (y4 + 1) (fun x13 => some (.inl (x11, x13)))) (zlt (x11 + 1) (fun x14 => zlt (y4 + 1) (fun x15 => some (.inl (x14, x15))))))))))))
theorem eb_X10_shore_20 {i : Nat} : fb_X10_shore_20 (zKn i) 21 = gb_X10_shore_20 (zKn i) := by
  funext M0 y3 y4
  simp only [fb_X10_shore_20, gb_X10_shore_20, Int.cast_ofNat_Int, zq_21_0]
def g_X10_shore (k : zK) (p1 : Int) (M0 : zM) : Option (zM × Int) :=
  zb1 (f_X10_isAge k p1 M0) (fun v1 => zbr v1 0 (¬ v1 = 0) (zbd (g_X10_viewAt k p1 M0) (fun M4 v3 => zgd (ztag k v3.toNat = 9) (zb1 (zw2 (fb_X10_shore_20 k (v3.toNat) M4) zfu 0 0) (fun x16 => some (M4, x16))))) (some (M0, (-1))))
theorem e_X10_shore {i : Nat} : f_X10_shore (zKn i) 1 = g_X10_shore (zKn i) := by
  funext p1 M0
  simp only [f_X10_shore, g_X10_shore, Int.cast_ofNat_Int, e_X10_viewAt]
def g_X10_sound (k : zK) (p1 : Int) (p2 : Int) (p3 : Int) (M0 : zM) : Option (zM × Int) :=
  zb1 (f_X10_isCell k p1 M0) (fun v1 => zsp1 (zbr v1 0 (v1 = 0) (some (.inl M0)) (zb1 (f_X10_isHeight k p2 M0) (fun v3 => zbr v3 0 (v3 = 0) (some (.inl M0)) (zb1 (f_X10_isHeight k p3 M0) (fun v5 => zbr v5 0 (v5 = 0) (some (.inl M0)) (zbr p3 p2 (p2 ≤ p3) (zgd (0 ≤ p1 ∧ p1 < 256) (zlt (zst M0 5 p1.toNat (p2)) (fun M7 => zgd (0 ≤ p1 ∧ p1 < 256) (zlt (zst M7 18 p1.toNat (p3)) (fun M8 => zb1 (g_X10_forgetGround k M8) (fun M9 => some (.inr (M9, 1)))))))) (some (.inl M0)))))))) (fun r => some r) (fun M10 => zbd (g_X10_refuse k 0 M10) (fun M12 v11 => some (M12, 0))))
theorem e_X10_sound {i : Nat} : f_X10_sound (zKn i) 1 = g_X10_sound (zKn i) := by
  funext p1 p2 p3 M0
  simp only [f_X10_sound, g_X10_sound, Int.cast_ofNat_Int, zq_1_1, zq_4_0, zq_4_1, e_X10_forgetGround, e_X10_refuse]
def gb_X10_tried_16 (k : zK) (l1 : Int) (M0 : zM) (y2 : Int) (y3 : Int) (y4 : Int) : Option ((Int × Int × Int) ⊕ (Int × Int)) :=
  zbr y4 16 (16 ≤ y4) (some (.inr (y2, y3))) (zgd (0 ≤ y4 ∧ y4 < 16) (zgd (0 ≤ y4 ∧ y4 < 16) (zb1 (f_X10_offTogether k (M0 8 y4.toNat) (M0 7 y4.toNat) M0) (fun v3 => zlt (y2 + v3) (fun x5 => zgd (0 ≤ y4 ∧ y4 < 16) (zlt (y3 + (M0 8 y4.toNat)) (fun x6 => zlt (y4 + 1) (fun x7 => some (.inl (x5, x6, x7))))))))))
theorem eb_X10_tried_16 {i : Nat} : fb_X10_tried_16 (zKn i) 1 = gb_X10_tried_16 (zKn i) := by
  funext l1 M0 y2 y3 y4
  simp only [fb_X10_tried_16, gb_X10_tried_16, Int.cast_ofNat_Int, zq_1_1, zq_4_4, zq_4_5]
def g_X10_tried (k : zK) (p1 : Int) (M0 : zM) : Option Int :=
  zb1 (f_X10_isPart k p1 M0) (fun v1 => zbr v1 0 (¬ v1 = 0) (zb2 (zw3 (gb_X10_tried_16 k p1 M0) zfu 0 0 0) (fun x8 x9 => zbr p1 0 (¬ p1 = 0) (zb1 (f_X10_offTogether k x9 (M0 4 16) M0) (fun v10 => some v10)) (some x8))) (some (-1)))
theorem e_X10_tried {i : Nat} : f_X10_tried (zKn i) 1 = g_X10_tried (zKn i) := by
  funext p1 M0
  simp only [f_X10_tried, g_X10_tried, Int.cast_ofNat_Int, zq_1_1, eb_X10_tried_16]
def gb_X8_countKinds_10 (k : zK) (y1 : Int) (M0 : zM) : Option ((Int × zM) ⊕ (zM)) :=
  zbr y1 256 (256 ≤ y1) (some (.inr M0)) (zgd (0 ≤ y1 ∧ y1 < 256) (zbr (M0 22 y1.toNat) 0 (M0 22 y1.toNat = 0) (zlt (y1 + 1) (fun x2 => some (.inl (x2, M0)))) (zb1 (g_X8_kindOf k y1 M0) (fun v3 => zgd (0 ≤ v3 ∧ v3 < 16) (zgd (0 ≤ v3 ∧ v3 < 16) (zlt (zst M0 38 v3.toNat ((M0 38 v3.toNat) + 1)) (fun M5 => zlt (y1 + 1) (fun x6 => some (.inl (x6, M5))))))))))
theorem eb_X8_countKinds_10 {i : Nat} : fb_X8_countKinds_10 (zKn i) 21 = gb_X8_countKinds_10 (zKn i) := by
  funext y1 M0
  simp only [fb_X8_countKinds_10, gb_X8_countKinds_10, Int.cast_ofNat_Int, zq_21_0, zq_21_5, e_X8_kindOf]
def g_X8_countKinds (k : zK) (M0 : zM) : Option (zM × Int) :=
  zb1 (f_J7_fill_53178 k 38 0 M0) (fun M1 => zb1 (zw2 (gb_X8_countKinds_10 k) zfu 0 M1) (fun M7 => some (M7, (38 : Int))))
theorem e_X8_countKinds {i : Nat} : f_X8_countKinds (zKn i) 21 = g_X8_countKinds (zKn i) := by
  funext M0
  simp only [f_X8_countKinds, g_X8_countKinds, Int.cast_ofNat_Int, zq_21_5, eb_X8_countKinds_10]
def gb_X10_unlike_33 (k : zK) (M0 : zM) (y3 : Int) (y4 : Int) : Option ((Int × Int) ⊕ (Int)) :=
  zbr y4 16 (16 ≤ y4) (some (.inr y3)) (zgd (0 ≤ y4 ∧ y4 < 16) (zlt (y3 + (M0 38 y4.toNat)) (fun x9 => zlt (y4 + 1) (fun x10 => some (.inl (x9, x10))))))
theorem eb_X10_unlike_33 {i : Nat} : fb_X10_unlike_33 (zKn i) 1 38 = gb_X10_unlike_33 (zKn i) := by
  funext M0 y3 y4
  simp only [fb_X10_unlike_33, gb_X10_unlike_33, Int.cast_ofNat_Int]
def gb_X10_unlike_65 (k : zK) (l3 : Int) (M0 : zM) (y4 : Int) (y5 : Int) : Option ((Int × Int) ⊕ (Int)) :=
  zbr y5 16 (16 ≤ y5) (some (.inr y4)) (zgd (0 ≤ y5 ∧ y5 < 16) (zgd ((0 ≤ 1000 * (M0 38 y5.toNat) ∧ 1000 * (M0 38 y5.toNat) ≤ 2147483647) ∧ 0 < l3 ∧ l3 ≤ 2147483647) (zlt ((1000 * (M0 38 y5.toNat)) / l3) (fun x12 => zgd (0 ≤ y5 ∧ y5 < 16) (zgd ((0 ≤ 1000 * (M0 7 y5.toNat) ∧ 1000 * (M0 7 y5.toNat) ≤ 2147483647) ∧ 0 < M0 4 16 ∧ M0 4 16 ≤ 2147483647) (zlt ((1000 * (M0 7 y5.toNat)) / (M0 4 16)) (fun x13 => zgd (zr (x12 - x13) ∧ -2147483647 ≤ x12 - x13) (zlt (y4 + (zabs (x12 - x13))) (fun x14 => zlt (y5 + 1) (fun x15 => some (.inl (x14, x15))))))))))))
theorem eb_X10_unlike_65 {i : Nat} : fb_X10_unlike_65 (zKn i) 1 38 = gb_X10_unlike_65 (zKn i) := by
  funext l3 M0 y4 y5
  simp only [fb_X10_unlike_65, gb_X10_unlike_65, Int.cast_ofNat_Int, zq_1_1, zq_4_4]
def g_X10_unlike (k : zK) (p1 : Int) (M0 : zM) : Option (zM × Int) :=
  zb1 (f_X10_isAge k p1 M0) (fun v1 => zbr v1 0 (v1 = 0) (some (M0, (-1))) (zbr (M0 4 16) 0 (¬ M0 4 16 = 0) (zbd (g_X10_viewAt k p1 M0) (fun M4 v3 => zgd (ztag k v3.toNat = 9) (zbd (f_X8_countKinds k (v3.toNat) M4) (fun M7 v6 => zgd (ztag k v6.toNat = 20 ∧ ((zlen k v6.toNat : Nat) : Int) = 16) (zb1 (zw2 (fb_X10_unlike_33 k 1 (v6.toNat) M7) zfu 0 0) (fun x11 => zbr x11 0 (¬ x11 = 0) (zb1 (zw2 (fb_X10_unlike_65 k 1 (v6.toNat) x11 M7) zfu 0 0) (fun x16 => some (M7, x16))) (some (M7, (-1))))))))) (some (M0, (-1)))))
theorem e_X10_unlike {i : Nat} : f_X10_unlike (zKn i) 1 = g_X10_unlike (zKn i) := by
  funext p1 M0
  simp only [f_X10_unlike, g_X10_unlike, Int.cast_ofNat_Int, zq_1_1, e_X10_viewAt]
def gb_X4_before_5 (k : zK) (l1 : Int) (l2 : Int) (M0 : zM) (y3 : Int) (y4 : Int) : Option ((Int × Int) ⊕ (Int)) :=
  zbr y4 l2 (l2 ≤ y4) (some (.inr y3)) (zb1 (g_X4_of k l1 y4 M0) (fun v1 => zlt (y3 + v1) (fun x3 => zlt (y4 + 1) (fun x4 => some (.inl (x3, x4))))))
theorem eb_X4_before_5 {i : Nat} : fb_X4_before_5 (zKn i) 39 = gb_X4_before_5 (zKn i) := by
  funext l1 l2 M0 y3 y4
  simp only [fb_X4_before_5, gb_X4_before_5, Int.cast_ofNat_Int, e_X4_of]
def g_X4_before (k : zK) (p1 : Int) (p2 : Int) (M0 : zM) : Option Int :=
  zb1 (zw2 (gb_X4_before_5 k p1 p2 M0) zfu 0 0) (fun x5 => some x5)
theorem e_X4_before {i : Nat} : f_X4_before (zKn i) 39 = g_X4_before (zKn i) := by
  funext p1 p2 M0
  simp only [f_X4_before, g_X4_before, Int.cast_ofNat_Int, eb_X4_before_5]
def g_X11_heightOf (k : zK) (p1 : Int) (M0 : zM) : Option Int :=
  zgd (0 ≤ p1 ∧ p1 < 256) (zbr (M0 118 p1.toNat) 0 (M0 118 p1.toNat = 0) (some 0) (zgd (0 ≤ p1 ∧ p1 < 256) (zgd (0 ≤ ((M0 114 p1.toNat) - (M0 76 48)) - (M0 76 49) ∧ ((M0 114 p1.toNat) - (M0 76 48)) - (M0 76 49) ≤ 2147483647) (some ((((M0 114 p1.toNat) - (M0 76 48)) - (M0 76 49)) / 2)))))
theorem e_X11_heightOf {i : Nat} : f_X11_heightOf (zKn i) 76 = g_X11_heightOf (zKn i) := by
  funext p1 M0
  simp only [f_X11_heightOf, g_X11_heightOf, Int.cast_ofNat_Int, zq_76_51, zq_76_55]
def g_X11_asked (k : zK) (p1 : Int) (p2 : Int) (M0 : zM) : Option zM :=
  zgd (0 ≤ p1 ∧ p1 ≤ 2147483647) (zgd (0 ≤ (0 : Int) ∧ (0 : Int) < 7) (zlt (zst M0 111 (Int.toNat 0) (p1 % 16)) (fun M1 => zgd (0 ≤ p1 ∧ p1 ≤ 2147483647) (zgd (0 ≤ (1 : Int) ∧ (1 : Int) < 7) (zlt (zst M1 111 (Int.toNat 1) (p1 / 16)) (fun M2 => zgd (0 ≤ (2 : Int) ∧ (2 : Int) < 7) (zlt (zst M2 111 (Int.toNat 2) (p2)) (fun M3 => zb1 (g_X11_heightOf k p1 M3) (fun v4 => zgd (0 ≤ (3 : Int) ∧ (3 : Int) < 7) (zlt (zst M3 111 (Int.toNat 3) (v4)) (fun M6 => zgd (0 ≤ p1 ∧ p1 < 256) (zgd (0 ≤ (4 : Int) ∧ (4 : Int) < 7) (zlt (zst M6 111 (Int.toNat 4) (M6 116 p1.toNat)) (fun M7 => zgd (0 ≤ p1 ∧ p1 < 256) (zgd (0 ≤ (5 : Int) ∧ (5 : Int) < 7) (zlt (zst M7 111 (Int.toNat 5) (M7 120 p1.toNat)) (fun M8 => zgd (0 ≤ p1 ∧ p1 < 256) (zgd (0 ≤ (6 : Int) ∧ (6 : Int) < 7) (zlt (zst M8 111 (Int.toNat 6) (M8 117 p1.toNat)) (fun M9 => some M9))))))))))))))))))))
theorem e_X11_asked {i : Nat} : f_X11_asked (zKn i) 76 = g_X11_asked (zKn i) := by
  funext p1 p2 M0
  simp only [f_X11_asked, g_X11_asked, Int.cast_ofNat_Int, zq_76_46, zq_76_53, zq_76_54, zq_76_57, e_X11_heightOf]
def gb_X11_holds_9 (k : zK) (l1 : Int) (y2 : Int) (y3 : Int) (M0 : zM) : Option ((Int × Int × zM) ⊕ (Int × zM)) :=
  zgd (0 ≤ l1 ∧ l1 < 80) (zbr y3 (M0 103 l1.toNat) (M0 103 l1.toNat ≤ y3) (some (.inr (y2, M0))) (zgd (0 ≤ y3 ∧ y3 < 2000) (zbr (M0 104 y3.toNat) 0 (¬ M0 104 y3.toNat = 0) (zgd (0 ≤ y3 ∧ y3 < 2000) (zbr (M0 104 y3.toNat) 1 (¬ M0 104 y3.toNat = 1) (zlt (y2 + (-1)) (fun x2 => zgd (0 ≤ y3 ∧ y3 < 2000) (zbr (M0 104 y3.toNat) 2 (¬ M0 104 y3.toNat = 2) (zgd (0 ≤ x2 - 1 ∧ x2 - 1 < 300) (zsp2 (zbr (M0 112 (x2 - 1).toNat) 0 (¬ M0 112 (x2 - 1).toNat = 0) (some (.inl (y3, M0))) (zgd (0 ≤ x2 ∧ x2 < 300) (zbr (M0 112 x2.toNat) 0 (M0 112 x2.toNat = 0) (zgd (((0 : Int) = 0 ∨ (0 : Int) = 1) ∧ 0 ≤ x2 - 1 ∧ x2 - 1 < 300) (zlt (zst M0 112 (x2 - 1).toNat (0)) (fun M3 => zlt (y3 + 1) (fun x4 => some (.inr (.inl (x2, x4, M3))))))) (some (.inl (y3, M0)))))) (fun r => some r) (fun x5 M6 => zgd (((1 : Int) = 0 ∨ (1 : Int) = 1) ∧ 0 ≤ x2 - 1 ∧ x2 - 1 < 300) (zlt (zst M6 112 (x2 - 1).toNat (1)) (fun M7 => zlt (x5 + 1) (fun x8 => some (.inl (x2, x8, M7)))))))) (zgd (0 ≤ x2 - 1 ∧ x2 - 1 < 300) (zsp2 (zbr (M0 112 (x2 - 1).toNat) 0 (M0 112 (x2 - 1).toNat = 0) (some (.inl (y3, M0))) (zgd (0 ≤ x2 ∧ x2 < 300) (zbr (M0 112 x2.toNat) 0 (M0 112 x2.toNat = 0) (some (.inl (y3, M0))) (zgd (((1 : Int) = 0 ∨ (1 : Int) = 1) ∧ 0 ≤ x2 - 1 ∧ x2 - 1 < 300) (zlt (zst M0 112 (x2 - 1).toNat (1)) (fun M9 => zlt (y3 + 1) (fun x10 => some (.inr (.inl (x2, x10, M9)))))))))) (fun r => some r) (fun x11 M12 => zgd (((0 : Int) = 0 ∨ (0 : Int) = 1) ∧ 0 ≤ x2 - 1 ∧ x2 - 1 < 300) (zlt (zst M12 112 (x2 - 1).toNat (0)) (fun M13 => zlt (x11 + 1) (fun x14 => some (.inl (x2, x14, M13))))))))))) (zgd (0 ≤ y2 - 1 ∧ y2 - 1 < 300) (zbr (M0 112 (y2 - 1).toNat) 0 (¬ M0 112 (y2 - 1).toNat = 0) (zgd (((0 : Int) = 0 ∨ (0 : Int) = 1) ∧ 0 ≤ y2 - 1 ∧ y2 - 1 < 300) (zlt (zst M0 112 (y2 - 1).toNat (0)) (fun M15 => zlt (y3 + 1) (fun x16 => some (.inl (y2, x16, M15)))))) (zgd (((1 : Int) = 0 ∨ (1 : Int) = 1) ∧ 0 ≤ y2 - 1 ∧ y2 - 1 < 300) (zlt (zst M0 112 (y2 - 1).toNat (1)) (fun M17 => zlt (y3 + 1) (fun x18 => some (.inl (y2, x18, M17)))))))))) (zgd (0 ≤ y3 ∧ y3 < 2000) (zgd (0 ≤ M0 105 y3.toNat ∧ M0 105 y3.toNat < 7) (zlt (M0 111 (M0 105 y3.toNat).toNat) (fun x19 => zgd (0 ≤ y3 ∧ y3 < 2000) (zb1 (zbr (M0 106 y3.toNat) 60 (¬ M0 106 y3.toNat = 60) (zgd (0 ≤ y3 ∧ y3 < 2000) (zbr (M0 106 y3.toNat) 62 (¬ M0 106 y3.toNat = 62) (zgd (0 ≤ y3 ∧ y3 < 2000) (zbr x19 (M0 107 y3.toNat) (¬ x19 = M0 107 y3.toNat) (some (0)) (some (1)))) (zgd (0 ≤ y3 ∧ y3 < 2000) (zbr x19 (M0 107 y3.toNat) (x19 ≤ M0 107 y3.toNat) (some (0)) (some (1)))))) (zgd (0 ≤ y3 ∧ y3 < 2000) (zbr x19 (M0 107 y3.toNat) (M0 107 y3.toNat ≤ x19) (some (0)) (some (1))))) (fun x20 => zgd ((x20 = 0 ∨ x20 = 1) ∧ 0 ≤ y2 ∧ y2 < 300) (zlt (zst M0 112 y2.toNat (x20)) (fun M21 => zlt (y2 + 1) (fun x22 => zlt (y3 + 1) (fun x23 => some (.inl (x22, x23, M21)))))))))))))))
theorem eb_X11_holds_9 {i : Nat} : fb_X11_holds_9 (zKn i) 76 = gb_X11_holds_9 (zKn i) := by
  funext l1 y2 y3 M0
  simp only [fb_X11_holds_9, gb_X11_holds_9, Int.cast_ofNat_Int, zq_76_27, zq_76_29, zq_76_30, zq_76_31, zq_76_32, zq_76_46, zq_76_47]
def g_X11_holds (k : zK) (p1 : Int) (M0 : zM) : Option (zM × Int) :=
  zgd (0 ≤ p1 ∧ p1 < 80) (zlt (M0 102 p1.toNat) (fun x1 => zb2 (zw3 (gb_X11_holds_9 k p1) zfu 0 x1 M0) (fun x24 M25 => zbr x24 0 (x24 = 0) (some (M25, 1)) (zgd (0 ≤ (0 : Int) ∧ (0 : Int) < 300) (zbr (M25 112 (Int.toNat 0)) 0 (M25 112 (Int.toNat 0) = 0) (some (M25, 0)) (some (M25, 1)))))))
theorem e_X11_holds {i : Nat} : f_X11_holds (zKn i) 76 = g_X11_holds (zKn i) := by
  funext p1 M0
  simp only [f_X11_holds, g_X11_holds, Int.cast_ofNat_Int, zq_76_26, zq_76_47, eb_X11_holds_9]
def gb_X11_first_2 (k : zK) (l1 : Int) (l2 : Int) (y3 : Int) (M0 : zM) : Option ((Int × zM) ⊕ ((Int × zM) ⊕ (zM × Int))) :=
  zgd (0 ≤ (0 : Int) ∧ (0 : Int) < 2) (zbr y3 (M0 97 (Int.toNat 0)) (M0 97 (Int.toNat 0) ≤ y3) (some (.inr (.inr (M0, l2)))) (zgd (0 ≤ y3 ∧ y3 < 80) (zbr (M0 98 y3.toNat) l1 (¬ M0 98 y3.toNat = l1) (zlt (y3 + 1) (fun x1 => some (.inl (x1, M0)))) (zbd (g_X11_holds k y3 M0) (fun M3 v2 => zbr v2 0 (v2 = 0) (zlt (y3 + 1) (fun x4 => some (.inl (x4, M3)))) (some (.inr (.inl (y3, M3)))))))))
theorem eb_X11_first_2 {i : Nat} : fb_X11_first_2 (zKn i) 76 = gb_X11_first_2 (zKn i) := by
  funext l1 l2 y3 M0
  simp only [fb_X11_first_2, gb_X11_first_2, Int.cast_ofNat_Int, zq_76_21, zq_76_22, e_X11_holds]
def g_X11_first (k : zK) (p1 : Int) (p2 : Int) (M0 : zM) : Option (zM × Int) :=
  zsp2 (zw2 (gb_X11_first_2 k p1 p2) zfu 0 M0) (fun r => some (r)) (fun x5 M6 => zgd (0 ≤ x5 ∧ x5 < 80) (some (M6, M6 99 x5.toNat)))
theorem e_X11_first {i : Nat} : f_X11_first (zKn i) 76 = g_X11_first (zKn i) := by
  funext p1 p2 M0
  simp only [f_X11_first, g_X11_first, Int.cast_ofNat_Int, zq_76_23, eb_X11_first_2]
def g_X11_by (k : zK) (p1 : Int) (p2 : Int) (p3 : Int) (M0 : zM) : Option (zM × Int) :=
  zsp0 (zbr p1 2 (¬ p1 = 2) (some (.inl ())) (zgd (0 ≤ p2 ∧ p2 < 256) (zbr (M0 118 p2.toNat) 0 (¬ M0 118 p2.toNat = 0) (some (.inl ())) (some (.inr (M0, 0)))))) (fun r => some r) (zb1 (g_X11_asked k p2 p3 M0) (fun M1 => zb1 (zbr p1 4 (¬ p1 = 4) (some (0)) (some (100))) (fun x2 => zbd (g_X11_first k p1 x2 M1) (fun M4 v3 => some (M4, v3)))))
theorem e_X11_by {i : Nat} : f_X11_by (zKn i) 76 = g_X11_by (zKn i) := by
  funext p1 p2 p3 M0
  simp only [f_X11_by, g_X11_by, Int.cast_ofNat_Int, zq_76_55, e_X11_asked, e_X11_first]
def g_X11_highOf (k : zK) (p1 : Int) (M0 : zM) : Option Int :=
  zgd (0 ≤ p1 ∧ p1 < 1024) (zgd (0 ≤ p1 ∧ p1 < 256) (zb1 (f_X11_heldTo99 k ((M0 83 p1.toNat) + (M0 113 p1.toNat)) M0) (fun v1 => some v1)))
theorem e_X11_highOf {i : Nat} : f_X11_highOf (zKn i) 76 = g_X11_highOf (zKn i) := by
  funext p1 M0
  simp only [f_X11_highOf, g_X11_highOf, Int.cast_ofNat_Int, zq_76_6, zq_76_50]
def g_X11_lowOf (k : zK) (p1 : Int) (M0 : zM) : Option Int :=
  zgd (0 ≤ p1 ∧ p1 < 1024) (zgd (0 ≤ p1 ∧ p1 < 256) (zb1 (f_X11_heldTo99 k ((M0 82 p1.toNat) + (M0 113 p1.toNat)) M0) (fun v1 => some v1)))
theorem e_X11_lowOf {i : Nat} : f_X11_lowOf (zKn i) 76 = g_X11_lowOf (zKn i) := by
  funext p1 M0
  simp only [f_X11_lowOf, g_X11_lowOf, Int.cast_ofNat_Int, zq_76_5, zq_76_50]
def gb_X11_findGround_11 (k : zK) (l1 : Int) (y2 : Int) (M0 : zM) : Option ((Int × zM) ⊕ (zM)) :=
  zbr y2 7 (7 ≤ y2) (some (.inr M0)) (zgd (0 ≤ y2 ∧ y2 < 7) (zlt (zst M0 111 y2.toNat (0)) (fun M1 => zlt (y2 + 1) (fun x2 => some (.inl (x2, M1))))))
theorem eb_X11_findGround_11 {i : Nat} : fb_X11_findGround_11 (zKn i) 76 = gb_X11_findGround_11 (zKn i) := by
  funext l1 y2 M0
  simp only [fb_X11_findGround_11, gb_X11_findGround_11, Int.cast_ofNat_Int, zq_76_46]
def gb_X11_findGround_2 (k : zK) (y1 : Int) (M0 : zM) : Option ((Int × zM) ⊕ (zM)) :=
  zbr y1 256 (256 ≤ y1) (some (.inr M0)) (zb1 (zw2 (gb_X11_findGround_11 k y1) zfu 0 M0) (fun M3 => zgd (0 ≤ y1 ∧ y1 ≤ 2147483647) (zgd (0 ≤ (0 : Int) ∧ (0 : Int) < 7) (zlt (zst M3 111 (Int.toNat 0) (y1 % 16)) (fun M4 => zgd (0 ≤ y1 ∧ y1 ≤ 2147483647) (zgd (0 ≤ (1 : Int) ∧ (1 : Int) < 7) (zlt (zst M4 111 (Int.toNat 1) (y1 / 16)) (fun M5 => zbd (g_X11_first k 1 0 M5) (fun M7 v6 => zgd (0 ≤ y1 ∧ y1 < 256) (zlt (zst M7 113 y1.toNat (v6)) (fun M8 => zb1 (g_X11_lowOf k y1 M8) (fun v9 => zb1 (g_X11_highOf k y1 M8) (fun v11 => zgd (0 ≤ y1 ∧ y1 < 256) (zlt (zst M8 114 y1.toNat (v9 + v11)) (fun M13 => zlt (y1 + 1) (fun x14 => some (.inl (x14, M13))))))))))))))))))
theorem eb_X11_findGround_2 {i : Nat} : fb_X11_findGround_2 (zKn i) 76 = gb_X11_findGround_2 (zKn i) := by
  funext y1 M0
  simp only [fb_X11_findGround_2, gb_X11_findGround_2, Int.cast_ofNat_Int, zq_76_46, zq_76_50, zq_76_51, e_X11_first, e_X11_highOf, e_X11_lowOf, eb_X11_findGround_11]
def gb_X11_findGround_117 (k : zK) (l1 : Int) (y2 : Int) (M0 : zM) : Option ((Int × zM) ⊕ (zM)) :=
  zbr y2 4 (4 ≤ y2) (some (.inr M0)) (zb1 (f_X11_beside k l1 y2 M0) (fun v19 => zbr v19 0 (v19 < 0) (zlt (y2 + 1) (fun x21 => some (.inl (x21, M0)))) (zgd (0 ≤ v19 ∧ v19 < 256) (zgd (0 ≤ l1 ∧ l1 < 256) (zbr (M0 114 v19.toNat) (M0 114 l1.toNat) (M0 114 v19.toNat < M0 114 l1.toNat) (zgd (0 ≤ l1 ∧ l1 < 256) (zsp1 (zbr (M0 115 l1.toNat) 0 (M0 115 l1.toNat < 0) (some (.inl y2)) (zgd (0 ≤ v19 ∧ v19 < 256) (zgd (0 ≤ l1 ∧ l1 < 256) (zgd (0 ≤ M0 115 l1.toNat ∧ M0 115 l1.toNat < 256) (zbr (M0 114 v19.toNat) (M0 114 (M0 115 l1.toNat).toNat) (M0 114 v19.toNat < M0 114 (M0 115 l1.toNat).toNat) (some (.inl y2)) (zgd (0 ≤ v19 ∧ v19 < 256) (zgd (0 ≤ l1 ∧ l1 < 256) (zgd (0 ≤ M0 115 l1.toNat ∧ M0 115 l1.toNat < 256) (zbr (M0 114 v19.toNat) (M0 114 (M0 115 l1.toNat).toNat) (¬ M0 114 v19.toNat = M0 114 (M0 115 l1.toNat).toNat) (zlt (y2 + 1) (fun x22 => some (.inr (.inl (x22, M0))))) (zgd (0 ≤ l1 ∧ l1 < 256) (zbr v19 (M0 115 l1.toNat) (M0 115 l1.toNat ≤ v19) (zlt (y2 + 1) (fun x23 => some (.inr (.inl (x23, M0))))) (some (.inl y2))))))))))))) (fun r => some r) (fun x24 => zgd (0 ≤ l1 ∧ l1 < 256) (zlt (zst M0 115 l1.toNat (v19)) (fun M25 => zlt (x24 + 1) (fun x26 => some (.inl (x26, M25)))))))) (zlt (y2 + 1) (fun x27 => some (.inl (x27, M0)))))))))
theorem eb_X11_findGround_117 {i : Nat} : fb_X11_findGround_117 (zKn i) 76 = gb_X11_findGround_117 (zKn i) := by
  funext l1 y2 M0
  simp only [fb_X11_findGround_117, gb_X11_findGround_117, Int.cast_ofNat_Int, zq_76_51, zq_76_52]
def gb_X11_findGround_224 (k : zK) (l1 : Int) (y2 : Int) (M0 : zM) : Option ((Int × zM) ⊕ (zM)) :=
  zbr y2 9 (9 ≤ y2) (some (.inr M0)) (zgd (0 ≤ l1 ∧ l1 ≤ 2147483647) (zgd (0 ≤ y2 ∧ y2 ≤ 2147483647) (zlt (((l1 % 16) + (y2 % 3)) - 1) (fun x29 => zgd (0 ≤ l1 ∧ l1 ≤ 2147483647) (zgd (0 ≤ y2 ∧ y2 ≤ 2147483647) (zlt (((l1 / 16) + (y2 / 3)) - 1) (fun x30 => zb1 (f_X11_within k x29 0 15 M0) (fun v31 => zbr v31 0 (v31 = 0) (zlt (y2 + 1) (fun x33 => some (.inl (x33, M0)))) (zb1 (f_X11_within k x30 0 15 M0) (fun v34 => zbr v34 0 (v34 = 0) (zlt (y2 + 1) (fun x36 => some (.inl (x36, M0)))) (zgd (0 ≤ (16 * x30) + x29 ∧ (16 * x30) + x29 < 256) (zgd (0 ≤ l1 ∧ l1 < 256) (zbr (M0 114 ((16 * x30) + x29).toNat) (M0 114 l1.toNat) (M0 114 ((16 * x30) + x29).toNat ≤ M0 114 l1.toNat) (zlt (y2 + 1) (fun x37 => some (.inl (x37, M0)))) (zgd (0 ≤ l1 ∧ l1 < 256) (zgd (0 ≤ l1 ∧ l1 < 256) (zlt (zst M0 117 l1.toNat ((M0 117 l1.toNat) + 1)) (fun M38 => zlt (y2 + 1) (fun x39 => some (.inl (x39, M38))))))))))))))))))))
theorem eb_X11_findGround_224 {i : Nat} : fb_X11_findGround_224 (zKn i) 76 = gb_X11_findGround_224 (zKn i) := by
  funext l1 y2 M0
  simp only [fb_X11_findGround_224, gb_X11_findGround_224, Int.cast_ofNat_Int, zq_76_51, zq_76_54]
def gb_X11_findGround_87 (k : zK) (y1 : Int) (M0 : zM) : Option ((Int × zM) ⊕ (zM)) :=
  zbr y1 256 (256 ≤ y1) (some (.inr M0)) (zgd (0 ≤ y1 ∧ y1 < 256) (zlt (zst M0 115 y1.toNat ((-1))) (fun M16 => zgd (0 ≤ y1 ∧ y1 < 256) (zlt (zst M16 116 y1.toNat (0)) (fun M17 => zgd (0 ≤ y1 ∧ y1 < 256) (zlt (zst M17 117 y1.toNat (0)) (fun M18 => zb1 (zw2 (gb_X11_findGround_117 k y1) zfu 0 M18) (fun M28 => zb1 (zw2 (gb_X11_findGround_224 k y1) zfu 0 M28) (fun M40 => zlt (y1 + 1) (fun x41 => some (.inl (x41, M40))))))))))))
theorem eb_X11_findGround_87 {i : Nat} : fb_X11_findGround_87 (zKn i) 76 = gb_X11_findGround_87 (zKn i) := by
  funext y1 M0
  simp only [fb_X11_findGround_87, gb_X11_findGround_87, Int.cast_ofNat_Int, zq_76_52, zq_76_53, zq_76_54, eb_X11_findGround_117, eb_X11_findGround_224]
def gb_X11_findGround_328 (k : zK) (l1 : Int) (y2 : Int) (M0 : zM) : Option ((Int × zM) ⊕ (zM)) :=
  zbr y2 0 (y2 < 0) (some (.inr M0)) (zgd (0 ≤ y2 ∧ y2 < 256) (zb1 (zbr (M0 116 y2.toNat) 99 (99 ≤ M0 116 y2.toNat) (some (M0)) (zgd (0 ≤ y2 ∧ y2 < 256) (zgd (0 ≤ y2 ∧ y2 < 256) (zlt (zst M0 116 y2.toNat ((M0 116 y2.toNat) + 1)) (fun M43 => some (M43)))))) (fun M44 => zgd (0 ≤ y2 ∧ y2 < 256) (zlt (M44 115 y2.toNat) (fun x45 => some (.inl (x45, M44)))))))
theorem eb_X11_findGround_328 {i : Nat} : fb_X11_findGround_328 (zKn i) 76 = gb_X11_findGround_328 (zKn i) := by
  funext l1 y2 M0
  simp only [fb_X11_findGround_328, gb_X11_findGround_328, Int.cast_ofNat_Int, zq_76_52, zq_76_53]
def gb_X11_findGround_319 (k : zK) (y1 : Int) (M0 : zM) : Option ((Int × zM) ⊕ (zM)) :=
  zbr y1 256 (256 ≤ y1) (some (.inr M0)) (zb1 (zw2 (gb_X11_findGround_328 k y1) zfu y1 M0) (fun M46 => zlt (y1 + 1) (fun x47 => some (.inl (x47, M46)))))
theorem eb_X11_findGround_319 {i : Nat} : fb_X11_findGround_319 (zKn i) 76 = gb_X11_findGround_319 (zKn i) := by
  funext y1 M0
  simp only [fb_X11_findGround_319, gb_X11_findGround_319, Int.cast_ofNat_Int, eb_X11_findGround_328]
def g_X11_findGround (k : zK) (M0 : zM) : Option zM :=
  zb1 (zw2 (gb_X11_findGround_2 k) zfu 0 M0) (fun M15 => zb1 (zw2 (gb_X11_findGround_87 k) zfu 0 M15) (fun M42 => zb1 (zw2 (gb_X11_findGround_319 k) zfu 0 M42) (fun M48 => some M48)))
theorem e_X11_findGround {i : Nat} : f_X11_findGround (zKn i) 76 = g_X11_findGround (zKn i) := by
  funext M0
  simp only [f_X11_findGround, g_X11_findGround, Int.cast_ofNat_Int, eb_X11_findGround_2, eb_X11_findGround_319, eb_X11_findGround_87]
def gb_X11_findSea_4 (k : zK) (l1 : Int) (M0 : zM) (y2 : Int) (y3 : Int) : Option ((Int × Int) ⊕ (Int)) :=
  zgd (0 ≤ (0 : Int) ∧ (0 : Int) < 2) (zbr y3 (M0 97 (Int.toNat 0)) (M0 97 (Int.toNat 0) ≤ y3) (some (.inr y2)) (zgd (0 ≤ y3 ∧ y3 < 80) (zbr (M0 98 y3.toNat) 0 (¬ M0 98 y3.toNat = 0) (zlt (y3 + 1) (fun x1 => some (.inl (y2, x1)))) (zgd (0 ≤ y3 ∧ y3 < 80) (zbr (M0 99 y3.toNat) l1 (l1 < M0 99 y3.toNat) (zlt (y3 + 1) (fun x2 => some (.inl (y2, x2)))) (zbr y2 0 (y2 < 0) (zlt (y3 + 1) (fun x3 => some (.inl (y3, x3)))) (zgd (0 ≤ y3 ∧ y3 < 80) (zgd (0 ≤ y2 ∧ y2 < 80) (zbr (M0 99 y3.toNat) (M0 99 y2.toNat) (M0 99 y3.toNat < M0 99 y2.toNat) (zlt (y3 + 1) (fun x4 => some (.inl (y2, x4)))) (zlt (y3 + 1) (fun x5 => some (.inl (y3, x5)))))))))))))
theorem eb_X11_findSea_4 {i : Nat} : fb_X11_findSea_4 (zKn i) 76 = gb_X11_findSea_4 (zKn i) := by
  funext l1 M0 y2 y3
  simp only [fb_X11_findSea_4, gb_X11_findSea_4, Int.cast_ofNat_Int, zq_76_21, zq_76_22, zq_76_23]
def g_X11_findSea (k : zK) (p1 : Int) (M0 : zM) : Option zM :=
  zb1 (zw2 (gb_X11_findSea_4 k p1 M0) zfu (-1) 0) (fun x6 => zb1 (zbr x6 0 (0 ≤ x6) (zgd (0 ≤ x6 ∧ x6 < 80) (some (M0 100 x6.toNat))) (some (0))) (fun x7 => zlt (zst M0 76 48 x7) (fun M8 => zbr x6 0 (0 ≤ x6) (zgd (0 ≤ x6 ∧ x6 < 80) (zlt (zst M8 76 49 (M8 101 x6.toNat)) (fun M9 => some M9))) (zlt (zst M8 76 49 0) (fun M10 => some M10)))))
theorem e_X11_findSea {i : Nat} : f_X11_findSea (zKn i) 76 = g_X11_findSea (zKn i) := by
  funext p1 M0
  simp only [f_X11_findSea, g_X11_findSea, Int.cast_ofNat_Int, zq_76_24, zq_76_25, eb_X11_findSea_4]
def gb_X11_findLand_9 (k : zK) (y2 : Int) (y3 : Int) (M0 : zM) : Option ((Int × Int × zM) ⊕ (Int × zM)) :=
  zbr y3 256 (256 ≤ y3) (some (.inr (y2, M0))) (zgd (0 ≤ y3 ∧ y3 < 256) (zb1 (zbr (M0 114 y3.toNat) ((M0 76 48) + (M0 76 49)) (M0 114 y3.toNat ≤ (M0 76 48) + (M0 76 49)) (some (0)) (some (1))) (fun x2 => zgd ((x2 = 0 ∨ x2 = 1) ∧ 0 ≤ y3 ∧ y3 < 256) (zlt (zst M0 118 y3.toNat (x2)) (fun M3 => zgd (0 ≤ y3 ∧ y3 < 256) (zb1 (zbr (M3 118 y3.toNat) 0 (M3 118 y3.toNat = 0) (some (0)) (some (99))) (fun x4 => zgd (0 ≤ y3 ∧ y3 < 256) (zlt (zst M3 120 y3.toNat (x4)) (fun M5 => zgd (0 ≤ y3 ∧ y3 < 256) (zbr (M5 118 y3.toNat) 0 (M5 118 y3.toNat = 0) (zgd (0 ≤ y2 ∧ y2 < 256) (zlt (zst M5 121 y2.toNat (y3)) (fun M6 => zlt (y2 + 1) (fun x7 => zlt (y3 + 1) (fun x8 => some (.inl (x7, x8, M6))))))) (zlt (y3 + 1) (fun x9 => some (.inl (y2, x9, M5))))))))))))))
theorem eb_X11_findLand_9 {i : Nat} : fb_X11_findLand_9 (zKn i) 76 = gb_X11_findLand_9 (zKn i) := by
  funext y2 y3 M0
  simp only [fb_X11_findLand_9, gb_X11_findLand_9, Int.cast_ofNat_Int, zq_76_51, zq_76_55, zq_76_57, zq_76_58]
def gb_X11_findLand_104 (k : zK) (l3 : Int) (y2 : Int) (y4 : Int) (M0 : zM) : Option ((Int × Int × zM) ⊕ (Int × zM)) :=
  zbr y4 4 (4 ≤ y4) (some (.inr (y2, M0))) (zgd (0 ≤ l3 ∧ l3 < 256) (zb1 (f_X11_beside k (M0 121 l3.toNat) y4 M0) (fun v12 => zbr v12 0 (v12 < 0) (zlt (y4 + 1) (fun x14 => some (.inl (y2, x14, M0)))) (zgd (0 ≤ v12 ∧ v12 < 256) (zbr (M0 120 v12.toNat) 99 (99 ≤ M0 120 v12.toNat) (zgd (0 ≤ l3 ∧ l3 < 256) (zgd (0 ≤ M0 121 l3.toNat ∧ M0 121 l3.toNat < 256) (zgd (0 ≤ v12 ∧ v12 < 256) (zlt (zst M0 120 v12.toNat ((M0 120 (M0 121 l3.toNat).toNat) + 1)) (fun M15 => zgd (0 ≤ y2 ∧ y2 < 256) (zlt (zst M15 121 y2.toNat (v12)) (fun M16 => zlt (y2 + 1) (fun x17 => zlt (y4 + 1) (fun x18 => some (.inl (x17, x18, M16))))))))))) (zlt (y4 + 1) (fun x19 => some (.inl (y2, x19, M0)))))))))
theorem eb_X11_findLand_104 {i : Nat} : fb_X11_findLand_104 (zKn i) 76 = gb_X11_findLand_104 (zKn i) := by
  funext l3 y2 y4 M0
  simp only [fb_X11_findLand_104, gb_X11_findLand_104, Int.cast_ofNat_Int, zq_76_57, zq_76_58]
def gb_X11_findLand_96 (k : zK) (y2 : Int) (y3 : Int) (M0 : zM) : Option ((Int × Int × zM) ⊕ (zM)) :=
  zbr y3 y2 (y2 ≤ y3) (some (.inr M0)) (zb2 (zw3 (gb_X11_findLand_104 k y3) zfu y2 0 M0) (fun x20 M21 => zlt (y3 + 1) (fun x22 => some (.inl (x20, x22, M21)))))
theorem eb_X11_findLand_96 {i : Nat} : fb_X11_findLand_96 (zKn i) 76 = gb_X11_findLand_96 (zKn i) := by
  funext y2 y3 M0
  simp only [fb_X11_findLand_96, gb_X11_findLand_96, Int.cast_ofNat_Int, eb_X11_findLand_104]
def g_X11_findLand (k : zK) (p1 : Int) (M0 : zM) : Option zM :=
  zb1 (g_X11_findSea k p1 M0) (fun M1 => zb2 (zw3 (gb_X11_findLand_9 k) zfu 0 0 M1) (fun x10 M11 => zb1 (zw3 (gb_X11_findLand_96 k) zfu x10 0 M11) (fun M23 => some M23)))
theorem e_X11_findLand {i : Nat} : f_X11_findLand (zKn i) 76 = g_X11_findLand (zKn i) := by
  funext p1 M0
  simp only [f_X11_findLand, g_X11_findLand, Int.cast_ofNat_Int, e_X11_findSea, eb_X11_findLand_9, eb_X11_findLand_96]
def g_X11_finds (k : zK) (p1 : Int) (M0 : zM) : Option zM :=
  zb1 (g_X11_findGround k M0) (fun M1 => zb1 (g_X11_findLand k p1 M1) (fun M2 => some M2))
theorem e_X11_finds {i : Nat} : f_X11_finds (zKn i) 76 = g_X11_finds (zKn i) := by
  funext p1 M0
  simp only [f_X11_finds, g_X11_finds, Int.cast_ofNat_Int, e_X11_findGround, e_X11_findLand]
def gb_X11_findLives_7 (k : zK) (l1 : Int) (y2 : Int) (M0 : zM) : Option ((Int × zM) ⊕ (zM)) :=
  zbr y2 256 (256 ≤ y2) (some (.inr M0)) (zbd (g_X11_by k 2 y2 l1 M0) (fun M3 v2 => zgd (0 ≤ y2 ∧ y2 < 256) (zlt (zst M3 126 y2.toNat (v2)) (fun M4 => zlt (y2 + 1) (fun x5 => some (.inl (x5, M4)))))))
theorem eb_X11_findLives_7 {i : Nat} : fb_X11_findLives_7 (zKn i) 76 = gb_X11_findLives_7 (zKn i) := by
  funext l1 y2 M0
  simp only [fb_X11_findLives_7, gb_X11_findLives_7, Int.cast_ofNat_Int, zq_76_69, e_X11_by]
def g_X11_findLives (k : zK) (p1 : Int) (M0 : zM) : Option zM :=
  zb1 (g_X11_finds k p1 M0) (fun M1 => zb1 (zw2 (gb_X11_findLives_7 k p1) zfu 0 M1) (fun M6 => some M6))
theorem e_X11_findLives {i : Nat} : f_X11_findLives (zKn i) 76 = g_X11_findLives (zKn i) := by
  funext p1 M0
  simp only [f_X11_findLives, g_X11_findLives, Int.cast_ofNat_Int, e_X11_finds, eb_X11_findLives_7]
def gb_X11_rankOf_4 (k : zK) (l1 : Int) (M0 : zM) (y2 : Int) (y3 : Int) : Option ((Int × Int) ⊕ (Int)) :=
  zbr y3 256 (256 ≤ y3) (some (.inr y2)) (zgd (0 ≤ y3 ∧ y3 < 256) (zgd (0 ≤ l1 ∧ l1 < 256) (zsp1 (zbr (M0 126 y3.toNat) (M0 126 l1.toNat) (M0 126 l1.toNat < M0 126 y3.toNat) (some (.inl y3)) (zgd (0 ≤ y3 ∧ y3 < 256) (zgd (0 ≤ l1 ∧ l1 < 256) (zsp0 (zbr (M0 126 y3.toNat) (M0 126 l1.toNat) (¬ M0 126 y3.toNat = M0 126 l1.toNat) (some (.inl ())) (zbr y3 l1 (l1 ≤ y3) (some (.inl ())) (some (.inr (.inl y3))))) (fun r => some r) (zlt (y2 + 0) (fun x1 => zlt (y3 + 1) (fun x2 => some (.inr (.inl (x1, x2)))))))))) (fun r => some r) (fun x3 => zlt (y2 + 1) (fun x4 => zlt (x3 + 1) (fun x5 => some (.inl (x4, x5))))))))
theorem eb_X11_rankOf_4 {i : Nat} : fb_X11_rankOf_4 (zKn i) 76 = gb_X11_rankOf_4 (zKn i) := by
  funext l1 M0 y2 y3
  simp only [fb_X11_rankOf_4, gb_X11_rankOf_4, Int.cast_ofNat_Int, zq_76_69]
def g_X11_rankOf (k : zK) (p1 : Int) (M0 : zM) : Option Int :=
  zb1 (zw2 (gb_X11_rankOf_4 k p1 M0) zfu 0 0) (fun x6 => some x6)
theorem e_X11_rankOf {i : Nat} : f_X11_rankOf (zKn i) 76 = g_X11_rankOf (zKn i) := by
  funext p1 M0
  simp only [f_X11_rankOf, g_X11_rankOf, Int.cast_ofNat_Int, eb_X11_rankOf_4]
def gb_X11_ahead_23 (k : zK) (l2 : Int) (M0 : zM) (y3 : Int) : Option ((Int) ⊕ ((Unit) ⊕ (zM × Int))) :=
  zbr y3 256 (256 ≤ y3) (some (.inr (.inl ()))) (zb1 (g_X11_rankOf k y3 M0) (fun v6 => zbr v6 l2 (¬ v6 = l2) (zlt (y3 + 1) (fun x8 => some (.inl (x8)))) (some (.inr (.inr (M0, y3))))))
theorem eb_X11_ahead_23 {i : Nat} : fb_X11_ahead_23 (zKn i) 76 = gb_X11_ahead_23 (zKn i) := by
  funext l2 M0 y3
  simp only [fb_X11_ahead_23, gb_X11_ahead_23, Int.cast_ofNat_Int, e_X11_rankOf]
def g_X11_ahead (k : zK) (p1 : Int) (p2 : Int) (M0 : zM) : Option (zM × Int) :=
  zb1 (f_X11_isAge k p1 M0) (fun v1 => zbr v1 0 (v1 = 0) (some (M0, (-1))) (zb1 (f_X11_isCell k p2 M0) (fun v3 => zbr v3 0 (¬ v3 = 0) (zb1 (g_X11_findLives k p1 M0) (fun M5 => zsp0 (zw1 (gb_X11_ahead_23 k p2 M5) zfu 0) (fun r => some (r)) (some (M5, (-1))))) (some (M0, (-1))))))
theorem e_X11_ahead {i : Nat} : f_X11_ahead (zKn i) 76 = g_X11_ahead (zKn i) := by
  funext p1 p2 M0
  simp only [f_X11_ahead, g_X11_ahead, Int.cast_ofNat_Int, e_X11_findLives, eb_X11_ahead_23]
def gb_X11_spread_28 (k : zK) (l2 : Nat) (l4 : Int) (y3 : Int) (y5 : Int) (M0 : zM) : Option ((Int × Int × zM) ⊕ (Int × zM)) :=
  zbr y5 4 (4 ≤ y5) (some (.inr (y3, M0))) (zgd (0 ≤ l4 ∧ l4 < 256) (zb1 (f_X11_beside k (M0 121 l4.toNat) y5 M0) (fun v3 => zbr v3 0 (v3 < 0) (zlt (y5 + 1) (fun x5 => some (.inl (y3, x5, M0)))) (zgd (0 ≤ v3 ∧ v3 < 256) (zbr (M0 119 v3.toNat) 0 (¬ M0 119 v3.toNat = 0) (zlt (y5 + 1) (fun x6 => some (.inl (y3, x6, M0)))) (zgd (0 ≤ v3 ∧ v3 < 256) (zbr (M0 l2 v3.toNat) 0 (¬ M0 l2 v3.toNat = 0) (zgd (((1 : Int) = 0 ∨ (1 : Int) = 1) ∧ 0 ≤ v3 ∧ v3 < 256) (zlt (zst M0 119 v3.toNat (1)) (fun M7 => zgd (0 ≤ y3 ∧ y3 < 256) (zlt (zst M7 121 y3.toNat (v3)) (fun M8 => zlt (y3 + 1) (fun x9 => zlt (y5 + 1) (fun x10 => some (.inl (x9, x10, M8))))))))) (zlt (y5 + 1) (fun x11 => some (.inl (y3, x11, M0)))))))))))
theorem eb_X11_spread_28 {i : Nat} : fb_X11_spread_28 (zKn i) 76 = gb_X11_spread_28 (zKn i) := by
  funext l2 l4 y3 y5 M0
  simp only [fb_X11_spread_28, gb_X11_spread_28, Int.cast_ofNat_Int, zq_76_56, zq_76_58]
def gb_X11_spread_19 (k : zK) (l2 : Nat) (y3 : Int) (y4 : Int) (M0 : zM) : Option ((Int × Int × zM) ⊕ (Int × zM)) :=
  zbr y4 y3 (y3 ≤ y4) (some (.inr (y3, M0))) (zb2 (zw3 (gb_X11_spread_28 k l2 y4) zfu y3 0 M0) (fun x12 M13 => zlt (y4 + 1) (fun x14 => some (.inl (x12, x14, M13)))))
theorem eb_X11_spread_19 {i : Nat} : fb_X11_spread_19 (zKn i) 76 = gb_X11_spread_19 (zKn i) := by
  funext l2 y3 y4 M0
  simp only [fb_X11_spread_19, gb_X11_spread_19, Int.cast_ofNat_Int, eb_X11_spread_28]
def g_X11_spread (k : zK) (p1 : Int) (p2 : Nat) (M0 : zM) : Option (zM × Int) :=
  zgd (0 ≤ (0 : Int) ∧ (0 : Int) < 256) (zlt (zst M0 121 (Int.toNat 0) (p1)) (fun M1 => zgd (((1 : Int) = 0 ∨ (1 : Int) = 1) ∧ 0 ≤ p1 ∧ p1 < 256) (zlt (zst M1 119 p1.toNat (1)) (fun M2 => zb2 (zw3 (gb_X11_spread_19 k p2) zfu 1 0 M2) (fun x15 M16 => some (M16, x15))))))
theorem e_X11_spread {i : Nat} : f_X11_spread (zKn i) 76 = g_X11_spread (zKn i) := by
  funext p1 p2 M0
  simp only [f_X11_spread, g_X11_spread, Int.cast_ofNat_Int, zq_76_56, zq_76_58, eb_X11_spread_19]
def gb_X11_unsees_2 (k : zK) (y1 : Int) (M0 : zM) : Option ((Int × zM) ⊕ (zM)) :=
  zbr y1 256 (256 ≤ y1) (some (.inr M0)) (zgd (((0 : Int) = 0 ∨ (0 : Int) = 1) ∧ 0 ≤ y1 ∧ y1 < 256) (zlt (zst M0 119 y1.toNat (0)) (fun M1 => zlt (y1 + 1) (fun x2 => some (.inl (x2, M1))))))
theorem eb_X11_unsees_2 {i : Nat} : fb_X11_unsees_2 (zKn i) 76 = gb_X11_unsees_2 (zKn i) := by
  funext y1 M0
  simp only [fb_X11_unsees_2, gb_X11_unsees_2, Int.cast_ofNat_Int, zq_76_56]
def g_X11_unsees (k : zK) (M0 : zM) : Option zM :=
  zb1 (zw2 (gb_X11_unsees_2 k) zfu 0 M0) (fun M3 => some M3)
theorem e_X11_unsees {i : Nat} : f_X11_unsees (zKn i) 76 = g_X11_unsees (zKn i) := by
  funext M0
  simp only [f_X11_unsees, g_X11_unsees, Int.cast_ofNat_Int, eb_X11_unsees_2]
def g_X11_islandOf (k : zK) (p1 : Int) (M0 : zM) : Option (zM × Int) :=
  zgd (0 ≤ p1 ∧ p1 < 256) (zbr (M0 118 p1.toNat) 0 (¬ M0 118 p1.toNat = 0) (zb1 (g_X11_unsees k M0) (fun M1 => zbd (g_X11_spread k p1 118 M1) (fun M3 v2 => some (M3, v2)))) (some (M0, 0)))
theorem e_X11_islandOf {i : Nat} : f_X11_islandOf (zKn i) 76 = g_X11_islandOf (zKn i) := by
  funext p1 M0
  simp only [f_X11_islandOf, g_X11_islandOf, Int.cast_ofNat_Int, zq_76_55, e_X11_spread, e_X11_unsees]
def gb_X11_alone_45 (k : zK) (l1 : Int) (l2 : Int) (l3 : Int) (y4 : Int) (y5 : Int) (y6 : Int) (y7 : Int) (M0 : zM) : Option ((Int × Int × Int × Int × zM) ⊕ (Int × Int × zM)) :=
  zbr y7 99 (99 < y7) (some (.inr (y5, y6, M0))) (zb1 (g_X11_findLand k y7 M0) (fun M8 => zbd (g_X11_islandOf k l1 M8) (fun M10 v9 => zb1 (f_X11_within k v9 1 l2 M10) (fun v11 => zb1 (zbr v11 0 (v11 = 0) (some (0)) (some (y4 + 1))) (fun x13 => zbr x13 y5 (y5 < x13) (zlt ((y7 - x13) + 1) (fun x14 => zlt (y7 + 1) (fun x15 => some (.inl (x13, x13, x14, x15, M10))))) (zlt (y7 + 1) (fun x16 => some (.inl (x13, y5, y6, x16, M10)))))))))
theorem eb_X11_alone_45 {i : Nat} : fb_X11_alone_45 (zKn i) 76 = gb_X11_alone_45 (zKn i) := by
  funext l1 l2 l3 y4 y5 y6 y7 M0
  simp only [fb_X11_alone_45, gb_X11_alone_45, Int.cast_ofNat_Int, e_X11_findLand, e_X11_islandOf]
def g_X11_alone (k : zK) (p1 : Int) (p2 : Int) (p3 : Int) (M0 : zM) : Option (zM × Int) :=
  zb1 (f_X11_isCell k p1 M0) (fun v1 => zbr v1 0 (v1 = 0) (some (M0, (-1))) (zb1 (f_X11_within k p2 1 256 M0) (fun v3 => zbr v3 0 (v3 = 0) (some (M0, (-1))) (zb1 (f_X11_within k p3 0 1 M0) (fun v5 => zbr v5 0 (¬ v5 = 0) (zb1 (g_X11_findGround k M0) (fun M7 => zb3 (zw5 (gb_X11_alone_45 k p1 p2 p3) zfu 0 0 (-1) 0 M7) (fun x17 x18 M19 => zbr p3 0 (¬ p3 = 0) (some (M19, x18)) (some (M19, x17))))) (some (M0, (-1))))))))
theorem e_X11_alone {i : Nat} : f_X11_alone (zKn i) 76 = g_X11_alone (zKn i) := by
  funext p1 p2 p3 M0
  simp only [f_X11_alone, g_X11_alone, Int.cast_ofNat_Int, e_X11_findGround, eb_X11_alone_45]
def g_X11_kindOf (k : zK) (p1 : Int) (M0 : zM) : Option Int :=
  zgd (0 ≤ p1 ∧ p1 < 256) (zb1 (zbr (M0 116 p1.toNat) 9 (M0 116 p1.toNat ≤ 9) (some (0)) (some (1))) (fun x1 => zgd (0 ≤ p1 ∧ p1 < 256) (zb1 (zbr (M0 120 p1.toNat) 3 (3 ≤ M0 120 p1.toNat) (some (0)) (some (2))) (fun x2 => zgd (0 ≤ p1 ∧ p1 < 256) (zb1 (zbr (M0 117 p1.toNat) 3 (M0 117 p1.toNat ≤ 3) (some (0)) (some (4))) (fun x3 => zb1 (g_X11_heightOf k p1 M0) (fun v4 => zbr v4 20 (20 ≤ v4) (some (((x1 + x2) + x3) + 0)) (some (((x1 + x2) + x3) + 8)))))))))
theorem e_X11_kindOf {i : Nat} : f_X11_kindOf (zKn i) 76 = g_X11_kindOf (zKn i) := by
  funext p1 M0
  simp only [f_X11_kindOf, g_X11_kindOf, Int.cast_ofNat_Int, zq_76_53, zq_76_54, zq_76_57, e_X11_heightOf]
def g_X11_asked_ (k : zK) (p1 : Int) (p2 : Int) (p3 : Int) (M0 : zM) : Option (zM × Int) :=
  zb1 (f_X11_isCell k p1 M0) (fun v1 => zbr v1 0 (v1 = 0) (some (M0, (-1))) (zb1 (f_X11_isAge k p2 M0) (fun v3 => zbr v3 0 (v3 = 0) (some (M0, (-1))) (zb1 (f_X11_within k p3 0 8 M0) (fun v5 => zbr v5 0 (¬ v5 = 0) (zb1 (g_X11_finds k p2 M0) (fun M7 => zgd (zr p3) (if p3 = 0 then (zgd (0 ≤ p1 ∧ p1 < 256) (zbr (M7 118 p1.toNat) 0 (M7 118 p1.toNat = 0) (some (M7, 0)) (some (M7, 1)))) else (if p3 = 1 then (zb1 (g_X11_heightOf k p1 M7) (fun v13 => some (M7, v13))) else (if p3 = 2 then (zgd (0 ≤ p1 ∧ p1 < 256) (some (M7, M7 120 p1.toNat))) else (if p3 = 3 then (zgd (0 ≤ p1 ∧ p1 < 256) (some (M7, M7 117 p1.toNat))) else (if p3 = 4 then (zbd (g_X11_islandOf k p1 M7) (fun M22 v21 => some (M22, v21))) else (if p3 = 5 then (zbd (g_X11_by k (p3 - 3) p1 p2 M7) (fun M26 v25 => some (M26, v25))) else (if p3 = 6 then (zbd (g_X11_by k (p3 - 3) p1 p2 M7) (fun M30 v29 => some (M30, v29))) else (if p3 = 7 then (zbd (g_X11_by k (p3 - 3) p1 p2 M7) (fun M34 v33 => some (M34, v33))) else (if p3 = 8 then (zb1 (g_X11_kindOf k p1 M7) (fun v37 => some (M7, v37))) else (zbd (g_X11_by k (p3 - 3) p1 p2 M7) (fun M40 v39 => some (M40, v39)))))))))))))) (some (M0, (-1))))))))
theorem e_X11_asked_ {i : Nat} : f_X11_asked_ (zKn i) 76 = g_X11_asked_ (zKn i) := by
  funext p1 p2 p3 M0
  simp only [f_X11_asked_, g_X11_asked_, Int.cast_ofNat_Int, zq_76_54, zq_76_55, zq_76_57, e_X11_by, e_X11_finds, e_X11_heightOf, e_X11_islandOf, e_X11_kindOf]
def g_X11_refuses (k : zK) (p1 : Int) (M0 : zM) : Option (zM × Int) :=
  zgd (0 ≤ p1 ∧ p1 < 3) (zgd (0 ≤ p1 ∧ p1 < 3) (zlt (zst M0 77 p1.toNat ((M0 77 p1.toNat) + 1)) (fun M1 => some (M1, (-1)))))
theorem e_X11_refuses {i : Nat} : f_X11_refuses (zKn i) 76 = g_X11_refuses (zKn i) := by
  funext p1 M0
  simp only [f_X11_refuses, g_X11_refuses, Int.cast_ofNat_Int, zq_76_0]
def g_X11_bucket (k : zK) (p1 : Int) (p2 : Int) (M0 : zM) : Option (zM × Int) :=
  zb1 (f_X11_isCell k p1 M0) (fun v1 => zsp1 (zbr v1 0 (v1 = 0) (some (.inl M0)) (zb1 (f_X11_within k p2 1 8 M0) (fun v3 => zbr v3 0 (¬ v3 = 0) (zgd (0 ≤ p1 ∧ p1 < 1024) (zbr ((M0 84 p1.toNat) + p2) 8 ((M0 84 p1.toNat) + p2 ≤ 8) (zgd (0 ≤ p1 ∧ p1 < 1024) (zgd (0 ≤ p1 ∧ p1 < 1024) (zlt (zst M0 84 p1.toNat ((M0 84 p1.toNat) + p2)) (fun M5 => zgd (0 ≤ p1 ∧ p1 < 1024) (some (.inr (M5, M5 84 p1.toNat))))))) (zbd (g_X11_refuses k 1 M0) (fun M7 v6 => some (.inr (M7, v6)))))) (some (.inl M0))))) (fun r => some r) (fun M8 => zbd (g_X11_refuses k 0 M8) (fun M10 v9 => some (M10, v9))))
theorem e_X11_bucket {i : Nat} : f_X11_bucket (zKn i) 76 = g_X11_bucket (zKn i) := by
  funext p1 p2 M0
  simp only [f_X11_bucket, g_X11_bucket, Int.cast_ofNat_Int, zq_76_7, e_X11_refuses]
def gb_X11_findLive_32 (k : zK) (l1 : Int) (l3 : Int) (l4 : Int) (y5 : Int) (M0 : zM) : Option ((Int × zM) ⊕ (zM)) :=
  zbr y5 256 (256 ≤ y5) (some (.inr M0)) (zbd (g_X11_by k 2 y5 l4 M0) (fun M6 v5 => zgd (zr v5) (zlt (zst M6 76 60 ((M6 76 60) + v5)) (fun M7 => zbr y5 l1 (¬ y5 = l1) (zlt (zst M7 76 59 ((M7 76 59) + 0)) (fun M8 => zlt (y5 + 1) (fun x9 => some (.inl (x9, M8))))) (zgd (zr v5) (zlt (zst M7 76 59 ((M7 76 59) + v5)) (fun M10 => zlt (y5 + 1) (fun x11 => some (.inl (x11, M10))))))))))
theorem eb_X11_findLive_32 {i : Nat} : fb_X11_findLive_32 (zKn i) 76 = gb_X11_findLive_32 (zKn i) := by
  funext l1 l3 l4 y5 M0
  simp only [fb_X11_findLive_32, gb_X11_findLive_32, Int.cast_ofNat_Int, e_X11_by]
def gb_X11_findLive_17 (k : zK) (l1 : Int) (l3 : Int) (y4 : Int) (M0 : zM) : Option ((Int × zM) ⊕ (zM)) :=
  zbr y4 l3 (l3 < y4) (some (.inr M0)) (zb1 (g_X11_findLand k y4 M0) (fun M4 => zb1 (zw2 (gb_X11_findLive_32 k l1 l3 y4) zfu 0 M4) (fun M12 => zlt (y4 + 1) (fun x13 => some (.inl (x13, M12))))))
theorem eb_X11_findLive_17 {i : Nat} : fb_X11_findLive_17 (zKn i) 76 = gb_X11_findLive_17 (zKn i) := by
  funext l1 l3 y4 M0
  simp only [fb_X11_findLive_17, gb_X11_findLive_17, Int.cast_ofNat_Int, e_X11_findLand, eb_X11_findLive_32]
def g_X11_findLive (k : zK) (p1 : Int) (p2 : Int) (p3 : Int) (M0 : zM) : Option zM :=
  zb1 (g_X11_findGround k M0) (fun M1 => zlt (zst M1 76 59 0) (fun M2 => zlt (zst M2 76 60 0) (fun M3 => zb1 (zw2 (gb_X11_findLive_17 k p1 p3) zfu p2 M3) (fun M14 => some M14))))
theorem e_X11_findLive {i : Nat} : f_X11_findLive (zKn i) 76 = g_X11_findLive (zKn i) := by
  funext p1 p2 p3 M0
  simp only [f_X11_findLive, g_X11_findLive, Int.cast_ofNat_Int, e_X11_findGround, eb_X11_findLive_17]
def g_X11_isFind (k : zK) (p1 : Int) (M0 : zM) : Option Int :=
  zbr p1 0 (p1 < 0) (some 0) (zgd (0 ≤ (0 : Int) ∧ (0 : Int) < 4) (zbr p1 (M0 79 (Int.toNat 0)) (M0 79 (Int.toNat 0) ≤ p1) (some 0) (some 1)))
theorem e_X11_isFind {i : Nat} : f_X11_isFind (zKn i) 76 = g_X11_isFind (zKn i) := by
  funext p1 M0
  simp only [f_X11_isFind, g_X11_isFind, Int.cast_ofNat_Int, zq_76_2]
def gb_X11_last_5 (k : zK) (l1 : Int) (l2 : Int) (M0 : zM) (y3 : Int) (y4 : Int) : Option ((Int × Int) ⊕ (Int)) :=
  zgd (0 ≤ (0 : Int) ∧ (0 : Int) < 2) (zbr y4 (M0 97 (Int.toNat 0)) (M0 97 (Int.toNat 0) ≤ y4) (some (.inr y3)) (zgd (0 ≤ y4 ∧ y4 < 80) (zbr (M0 98 y4.toNat) l1 (¬ M0 98 y4.toNat = l1) (zlt (y4 + 1) (fun x1 => some (.inl (y3, x1)))) (zsp1 (zbr l2 0 (l2 < 0) (some (.inl y4)) (zgd (0 ≤ y4 ∧ y4 < 80) (zbr (M0 100 y4.toNat) l2 (¬ M0 100 y4.toNat = l2) (zlt (y4 + 1) (fun x2 => some (.inr (.inl (y3, x2))))) (some (.inl y4))))) (fun r => some r) (fun x3 => zgd (0 ≤ x3 ∧ x3 < 80) (zlt (M0 99 x3.toNat) (fun x4 => zlt (x3 + 1) (fun x5 => some (.inl (x4, x5))))))))))
theorem eb_X11_last_5 {i : Nat} : fb_X11_last_5 (zKn i) 76 = gb_X11_last_5 (zKn i) := by
  funext l1 l2 M0 y3 y4
  simp only [fb_X11_last_5, gb_X11_last_5, Int.cast_ofNat_Int, zq_76_21, zq_76_22, zq_76_23, zq_76_24]
def g_X11_last (k : zK) (p1 : Int) (p2 : Int) (M0 : zM) : Option Int :=
  zb1 (zw2 (gb_X11_last_5 k p1 p2 M0) zfu 0 0) (fun x6 => some x6)
theorem e_X11_last {i : Nat} : f_X11_last (zKn i) 76 = g_X11_last (zKn i) := by
  funext p1 p2 M0
  simp only [f_X11_last, g_X11_last, Int.cast_ofNat_Int, eb_X11_last_5]
def g_X11_carried (k : zK) (p1 : Int) (p2 : Int) (M0 : zM) : Option (zM × Int) :=
  zb1 (g_X11_isFind k p1 M0) (fun v1 => zbr v1 0 (v1 = 0) (some (M0, (-1))) (zb1 (f_X11_within k p2 0 1 M0) (fun v3 => zbr v3 0 (¬ v3 = 0) (zgd (0 ≤ p1 ∧ p1 < 240) (zgd (0 ≤ p1 ∧ p1 < 240) (zgd (0 ≤ p1 ∧ p1 < 240) (zb1 (g_X11_findLive k (M0 87 p1.toNat) (M0 89 p1.toNat) (M0 90 p1.toNat) M0) (fun M5 => zgd (0 ≤ p1 ∧ p1 < 240) (zb1 (g_X11_last k 5 (M5 88 p1.toNat) M5) (fun v6 => zgd (zr v6) (zlt (v6 * (M5 76 60)) (fun x8 => zlt (x8 + (((100 - v6) * 256) * (M5 76 59))) (fun x9 => zbl x9 0 (¬ x9 = 0) (zb1 (f_X11_lowest k x8 x9 p2 M5) (fun v10 => some (M5, v10))) (zgd (zr p2) (some (M5, p2))))))))))))) (some (M0, (-1))))))
theorem e_X11_carried {i : Nat} : f_X11_carried (zKn i) 76 = g_X11_carried (zKn i) := by
  funext p1 p2 M0
  simp only [f_X11_carried, g_X11_carried, Int.cast_ofNat_Int, zq_76_10, zq_76_11, zq_76_12, zq_76_13, e_X11_findLive, e_X11_isFind, e_X11_last]
def g_X11_catches (k : zK) (M0 : zM) : Option Int :=
  zb1 (g_X11_last k 6 (-1) M0) (fun v1 => some v1)
theorem e_X11_catches {i : Nat} : f_X11_catches (zKn i) 76 = g_X11_catches (zKn i) := by
  funext M0
  simp only [f_X11_catches, g_X11_catches, Int.cast_ofNat_Int, e_X11_last]
def gb_X11_isPlace_2 (k : zK) (l1 : Int) (M0 : zM) (y2 : Int) : Option ((Int) ⊕ ((Unit) ⊕ Int)) :=
  zgd (0 ≤ (0 : Int) ∧ (0 : Int) < 4) (zbr y2 (M0 80 (Int.toNat 0)) (M0 80 (Int.toNat 0) ≤ y2) (some (.inr (.inl ()))) (zgd (0 ≤ y2 ∧ y2 < 40) (zbr (M0 91 y2.toNat) l1 (¬ M0 91 y2.toNat = l1) (zlt (y2 + 1) (fun x1 => some (.inl (x1)))) (some (.inr (.inr 1))))))
theorem eb_X11_isPlace_2 {i : Nat} : fb_X11_isPlace_2 (zKn i) 76 = gb_X11_isPlace_2 (zKn i) := by
  funext l1 M0 y2
  simp only [fb_X11_isPlace_2, gb_X11_isPlace_2, Int.cast_ofNat_Int, zq_76_3, zq_76_14]
def g_X11_isPlace (k : zK) (p1 : Int) (M0 : zM) : Option Int :=
  zsp0 (zw1 (gb_X11_isPlace_2 k p1 M0) zfu 0) (fun r => some ((r))) (some 0)
theorem e_X11_isPlace {i : Nat} : f_X11_isPlace (zKn i) 76 = g_X11_isPlace (zKn i) := by
  funext p1 M0
  simp only [f_X11_isPlace, g_X11_isPlace, Int.cast_ofNat_Int, eb_X11_isPlace_2]
def gb_X11_isSure_33 (k : zK) (l1 : Int) (l2 : Int) (l3 : Int) (M0 : zM) (y4 : Int) : Option ((Int) ⊕ ((Unit) ⊕ Int)) :=
  zbr y4 4 (4 ≤ y4) (some (.inr (.inl ()))) (zb1 (f_X11_beside k l1 y4 M0) (fun v6 => zbr v6 0 (v6 < 0) (zlt (y4 + 1) (fun x8 => some (.inl (x8)))) (zbr v6 l2 (v6 = l2) (zlt (y4 + 1) (fun x9 => some (.inl (x9)))) (zb1 (g_X11_lowOf k v6 M0) (fun v10 => zbr v10 l3 (l3 ≤ v10) (zlt (y4 + 1) (fun x12 => some (.inl (x12)))) (some (.inr (.inr 0))))))))
theorem eb_X11_isSure_33 {i : Nat} : fb_X11_isSure_33 (zKn i) 76 = gb_X11_isSure_33 (zKn i) := by
  funext l1 l2 l3 M0 y4
  simp only [fb_X11_isSure_33, gb_X11_isSure_33, Int.cast_ofNat_Int, e_X11_lowOf]
def g_X11_isSure (k : zK) (p1 : Int) (M0 : zM) : Option Int :=
  zgd (0 ≤ p1 ∧ p1 < 256) (zlt (M0 115 p1.toNat) (fun x1 => zbr x1 0 (0 ≤ x1) (zb1 (g_X11_highOf k x1 M0) (fun v2 => zb1 (g_X11_lowOf k p1 M0) (fun v4 => zbr v2 v4 (v2 < v4) (zsp0 (zw1 (gb_X11_isSure_33 k p1 x1 v2 M0) zfu 0) (fun r => some ((r))) (some 1)) (some 0)))) (some 0)))
theorem e_X11_isSure {i : Nat} : f_X11_isSure (zKn i) 76 = g_X11_isSure (zKn i) := by
  funext p1 M0
  simp only [f_X11_isSure, g_X11_isSure, Int.cast_ofNat_Int, zq_76_52, e_X11_highOf, e_X11_lowOf, eb_X11_isSure_33]
def gb_X11_underOf_2 (k : zK) (l1 : Int) (l2 : Int) (y3 : Int) (M0 : zM) : Option ((Int × zM) ⊕ ((Int × zM) ⊕ (zM × Int))) :=
  zbr y3 99 (99 < y3) (some (.inr (.inr (M0, 100)))) (zb1 (g_X11_findSea k y3 M0) (fun M1 => zbr l2 0 (l2 = 0) (zb1 (g_X11_lowOf k l1 M1) (fun v2 => zbr (M1 76 49) v2 (M1 76 49 < v2) (zlt (y3 + 1) (fun x4 => some (.inl (x4, M1)))) (some (.inr (.inr (M1, y3)))))) (zb1 (g_X11_highOf k l1 M1) (fun v5 => zbr (M1 76 48) v5 (M1 76 48 < v5) (zlt (y3 + 1) (fun x7 => some (.inl (x7, M1)))) (some (.inr (.inl (y3, M1))))))))
theorem eb_X11_underOf_2 {i : Nat} : fb_X11_underOf_2 (zKn i) 76 = gb_X11_underOf_2 (zKn i) := by
  funext l1 l2 y3 M0
  simp only [fb_X11_underOf_2, gb_X11_underOf_2, Int.cast_ofNat_Int, e_X11_findSea, e_X11_highOf, e_X11_lowOf]
def g_X11_underOf (k : zK) (p1 : Int) (p2 : Int) (M0 : zM) : Option (zM × Int) :=
  zsp2 (zw2 (gb_X11_underOf_2 k p1 p2) zfu 0 M0) (fun r => some (r)) (fun x8 M9 => some (M9, x8))
theorem e_X11_underOf {i : Nat} : f_X11_underOf (zKn i) 76 = g_X11_underOf (zKn i) := by
  funext p1 p2 M0
  simp only [f_X11_underOf, g_X11_underOf, Int.cast_ofNat_Int, eb_X11_underOf_2]
def g_X11_cell (k : zK) (p1 : Int) (p2 : Int) (M0 : zM) : Option (zM × Int) :=
  zb1 (f_X11_isCell k p1 M0) (fun v1 => zbr v1 0 (v1 = 0) (some (M0, (-1))) (zb1 (f_X11_within k p2 0 10 M0) (fun v3 => zbr v3 0 (¬ v3 = 0) (zb1 (g_X11_findGround k M0) (fun M5 => zgd (zr p2) (if p2 = 0 then (zb1 (g_X11_lowOf k p1 M5) (fun v9 => some (M5, v9))) else (if p2 = 1 then (zb1 (g_X11_highOf k p1 M5) (fun v13 => some (M5, v13))) else (if p2 = 2 then (zgd (0 ≤ p1 ∧ p1 < 256) (some (M5, M5 113 p1.toNat))) else (if p2 = 3 then (zgd (0 ≤ p1 ∧ p1 < 256) (some (M5, M5 115 p1.toNat))) else (if p2 = 4 then (zgd (0 ≤ p1 ∧ p1 < 256) (some (M5, M5 116 p1.toNat))) else (if p2 = 5 then (zb1 (g_X11_isSure k p1 M5) (fun v23 => some (M5, v23))) else (if p2 = 6 then (zbd (g_X11_underOf k p1 0 M5) (fun M28 v27 => some (M28, v27))) else (if p2 = 7 then (zbd (g_X11_underOf k p1 1 M5) (fun M32 v31 => some (M32, v31))) else (if p2 = 8 then (zgd (0 ≤ p1 ∧ p1 < 1024) (some (M5, M5 84 p1.toNat))) else (if p2 = 9 then (zb1 (g_X11_isPlace k p1 M5) (fun v37 => zbr v37 0 (v37 = 0) (some (M5, 0)) (some (M5, 1)))) else (zgd (0 ≤ p1 ∧ p1 < 1024) (some (M5, M5 85 p1.toNat))))))))))))))) (some (M0, (-1))))))
theorem e_X11_cell {i : Nat} : f_X11_cell (zKn i) 76 = g_X11_cell (zKn i) := by
  funext p1 p2 M0
  simp only [f_X11_cell, g_X11_cell, Int.cast_ofNat_Int, zq_76_7, zq_76_8, zq_76_50, zq_76_52, zq_76_53, e_X11_findGround, e_X11_highOf, e_X11_isPlace, e_X11_isSure, e_X11_lowOf, e_X11_underOf]
def g_X11_errs (k : zK) (M0 : zM) : Option zM :=
  zbr (M0 76 42) 0 (M0 76 42 = 0) (zgd ((1 : Int) = 0 ∨ (1 : Int) = 1) (zlt (zst M0 76 42 1) (fun M1 => zlt (zst M1 76 35 (M1 76 38)) (fun M2 => some M2)))) (some M0)
theorem e_X11_errs {i : Nat} : f_X11_errs (zKn i) 76 = g_X11_errs (zKn i) := by
  funext M0
  simp only [f_X11_errs, g_X11_errs, Int.cast_ofNat_Int]
def g_X11_is (k : zK) (p1 : Int) (M0 : zM) : Option Int :=
  zbr (M0 76 42) 0 (¬ M0 76 42 = 0) (some 0) (zbr (M0 76 39) 1 (¬ M0 76 39 = 1) (some 0) (zbl (M0 76 41) p1 (¬ M0 76 41 = p1) (some 0) (some 1)))
theorem e_X11_is {i : Nat} : f_X11_is (zKn i) 76 = g_X11_is (zKn i) := by
  funext p1 M0
  simp only [f_X11_is, g_X11_is, Int.cast_ofNat_Int]
def g_X11_here (k : zK) (M0 : zM) : Option Int :=
  zbr (M0 76 37) (M0 76 36) (M0 76 36 ≤ M0 76 37) (some (-1)) (zgd (0 ≤ M0 76 37 ∧ M0 76 37 < 700) (some (zo_and (M0 108 (M0 76 37).toNat) 255)))
theorem e_X11_here {i : Nat} : f_X11_here (zKn i) 76 = g_X11_here (zKn i) := by
  funext M0
  simp only [f_X11_here, g_X11_here, Int.cast_ofNat_Int, zq_76_33]
def gb_X11_next_0 (k : zK) (M0 : zM) : Option ((zM) ⊕ (zM)) :=
  zb1 (g_X11_here k M0) (fun v1 => zsp0 (zbr v1 32 (v1 = 32) (some (.inl ())) (zb1 (g_X11_here k M0) (fun v3 => zbr v3 10 (¬ v3 = 10) (some (.inr (.inr M0))) (some (.inl ()))))) (fun r => some r) (zlt (zst M0 76 37 ((M0 76 37) + 1)) (fun M5 => some (.inl (M5)))))
theorem eb_X11_next_0 {i : Nat} : fb_X11_next_0 (zKn i) 76 = gb_X11_next_0 (zKn i) := by
  funext M0
  simp only [fb_X11_next_0, gb_X11_next_0, Int.cast_ofNat_Int, e_X11_here]
def gb_X11_next_168 (k : zK) (M0 : zM) : Option ((zM) ⊕ (zM)) :=
  zb1 (g_X11_here k M0) (fun v21 => zb1 (f_X11_within k v21 48 57 M0) (fun v23 => zbr v23 0 (v23 = 0) (some (.inr M0)) (zb1 (zbr (M0 76 40) 1000000 (1000000 ≤ M0 76 40) (some (M0)) (zb1 (g_X11_here k M0) (fun v25 => zlt (zst M0 76 40 (((10 * (M0 76 40)) + v25) - 48)) (fun M27 => some (M27))))) (fun M28 => zlt (zst M28 76 37 ((M28 76 37) + 1)) (fun M29 => some (.inl (M29)))))))
theorem eb_X11_next_168 {i : Nat} : fb_X11_next_168 (zKn i) 76 = gb_X11_next_168 (zKn i) := by
  funext M0
  simp only [fb_X11_next_168, gb_X11_next_168, Int.cast_ofNat_Int, e_X11_here]
def gb_X11_next_89 (k : zK) (M0 : zM) : Option ((zM) ⊕ (zM)) :=
  zb1 (g_X11_here k M0) (fun v35 => zb1 (f_X11_within k v35 97 122 M0) (fun v37 => zbr v37 0 (v37 = 0) (some (.inr M0)) (zb1 (zbr ((M0 76 37) - (M0 76 38)) 10 (10 ≤ (M0 76 37) - (M0 76 38)) (some (-1)) (zb1 (g_X11_here k M0) (fun v39 => zgd (zr (v39 - 96)) (some (((M0 76 41) * 27) + (v39 - 96)))))) (fun x41 => zlt (zst M0 76 41 x41) (fun M42 => zlt (zst M42 76 37 ((M42 76 37) + 1)) (fun M43 => some (.inl (M43))))))))
theorem eb_X11_next_89 {i : Nat} : fb_X11_next_89 (zKn i) 76 = gb_X11_next_89 (zKn i) := by
  funext M0
  simp only [fb_X11_next_89, gb_X11_next_89, Int.cast_ofNat_Int, e_X11_here]
def g_X11_next (k : zK) (M0 : zM) : Option zM :=
  zb1 (zw1 (gb_X11_next_0 k) zfu M0) (fun M6 => zlt (zst M6 76 38 (M6 76 37)) (fun M7 => zb1 (g_X11_here k M7) (fun v8 => zlt (zst M7 76 41 (-1)) (fun M10 => zlt (zst M10 76 40 0) (fun M11 => zbr v8 0 (0 ≤ v8) (zb1 (f_X11_within k v8 97 122 M11) (fun v12 => zbr v12 0 (v12 = 0) (zb1 (f_X11_within k v8 48 57 M11) (fun v14 => zbr v14 0 (v14 = 0) (zsp1 (zbr v8 40 (v8 = 40) (some (.inl M11)) (zbr v8 41 (v8 = 41) (some (.inl M11)) (zbr v8 59 (v8 = 59) (some (.inl M11)) (zbr v8 60 (v8 = 60) (some (.inl M11)) (zbr v8 62 (v8 = 62) (some (.inl M11)) (zbr v8 61 (¬ v8 = 61) (zlt (zst M11 76 39 3) (fun M16 => zlt (zst M16 76 37 ((M16 76 37) + 1)) (fun M17 => some (.inr M17)))) (some (.inl M11)))))))) (fun r => some r) (fun M18 => zlt (zst M18 76 39 v8) (fun M19 => zlt (zst M19 76 37 ((M19 76 37) + 1)) (fun M20 => some M20)))) (zb1 (zw1 (gb_X11_next_168 k) zfu M11) (fun M30 => zbr ((M30 76 37) - (M30 76 38)) 4 (4 < (M30 76 37) - (M30 76 38)) (zlt (zst M30 76 39 3) (fun M31 => some M31)) (zlt (zst M30 76 39 2) (fun M32 => some M32)))))) (zlt (zst M11 76 39 1) (fun M33 => zlt (zst M33 76 41 0) (fun M34 => zb1 (zw1 (gb_X11_next_89 k) zfu M34) (fun M44 => some M44)))))) (zlt (zst M11 76 39 0) (fun M45 => some M45)))))))
theorem e_X11_next {i : Nat} : f_X11_next (zKn i) 76 = g_X11_next (zKn i) := by
  funext M0
  simp only [f_X11_next, g_X11_next, Int.cast_ofNat_Int, e_X11_here, eb_X11_next_0, eb_X11_next_168, eb_X11_next_89]
def g_X11_step (k : zK) (p1 : Int) (p2 : Int) (p3 : Int) (p4 : Int) (M0 : zM) : Option zM :=
  zgd (0 ≤ M0 76 28 ∧ M0 76 28 < 2000) (zlt (zst M0 104 (M0 76 28).toNat (p1)) (fun M1 => zgd (0 ≤ M1 76 28 ∧ M1 76 28 < 2000) (zlt (zst M1 105 (M1 76 28).toNat (p2)) (fun M2 => zgd (0 ≤ M2 76 28 ∧ M2 76 28 < 2000) (zlt (zst M2 106 (M2 76 28).toNat (p3)) (fun M3 => zgd (0 ≤ M3 76 28 ∧ M3 76 28 < 2000) (zlt (zst M3 107 (M3 76 28).toNat (p4)) (fun M4 => zlt (zst M4 76 28 ((M4 76 28) + 1)) (fun M5 => some M5)))))))))
theorem e_X11_step {i : Nat} : f_X11_step (zKn i) 76 = g_X11_step (zKn i) := by
  funext p1 p2 p3 p4 M0
  simp only [f_X11_step, g_X11_step, Int.cast_ofNat_Int, zq_76_29, zq_76_30, zq_76_31, zq_76_32]
def gb_X11_closes_13 (k : zK) (M0 : zM) : Option ((zM) ⊕ (zM)) :=
  zbr (M0 76 45) 0 (M0 76 45 ≤ 0) (some (.inr M0)) (zgd (0 ≤ (M0 76 45) - 1 ∧ (M0 76 45) - 1 < 12) (zbr (M0 109 ((M0 76 45) - 1).toNat) 1 (¬ M0 109 ((M0 76 45) - 1).toNat = 1) (some (.inr M0)) (zlt (zst M0 76 45 ((M0 76 45) - 1)) (fun M1 => zb1 (g_X11_step k 1 0 0 0 M1) (fun M2 => some (.inl (M2)))))))
theorem eb_X11_closes_13 {i : Nat} : fb_X11_closes_13 (zKn i) 76 = gb_X11_closes_13 (zKn i) := by
  funext M0
  simp only [fb_X11_closes_13, gb_X11_closes_13, Int.cast_ofNat_Int, zq_76_43, e_X11_step]
def gb_X11_closes_2 (k : zK) (y1 : Int) (M0 : zM) : Option ((Int × zM) ⊕ ((zM) ⊕ (zM × Int))) :=
  zbr y1 0 (y1 = 0) (some (.inr (.inr (M0, 0)))) (zbr (M0 76 42) 0 (¬ M0 76 42 = 0) (some (.inr (.inr (M0, 0)))) (zb1 (zw1 (gb_X11_closes_13 k) zfu M0) (fun M3 => zb1 (g_X11_is k 1111 M3) (fun v4 => zbr v4 0 (v4 = 0) (zgd (0 ≤ M3 76 45 ∧ M3 76 45 < 12) (zgd (0 ≤ M3 110 (M3 76 45).toNat ∧ M3 110 (M3 76 45).toNat ≤ 2147483647) (zb1 (zbr ((M3 110 (M3 76 45).toNat) % 2) 1 (¬ (M3 110 (M3 76 45).toNat) % 2 = 1) (some (M3)) (zb1 (g_X11_step k 2 0 0 0 M3) (fun M6 => some (M6)))) (fun M7 => zgd (0 ≤ M7 76 45 ∧ M7 76 45 < 12) (zgd (0 ≤ M7 110 (M7 76 45).toNat ∧ M7 110 (M7 76 45).toNat ≤ 2147483647) (zgd (0 ≤ M7 76 45 ∧ M7 76 45 < 12) (zlt (zst M7 110 (M7 76 45).toNat (((M7 110 (M7 76 45).toNat) / 2) * 2)) (fun M8 => zgd (0 ≤ M8 76 45 ∧ M8 76 45 < 12) (zb1 (zbr (M8 110 (M8 76 45).toNat) 1 (M8 110 (M8 76 45).toNat ≤ 1) (some (M8)) (zb1 (g_X11_step k 3 0 0 0 M8) (fun M9 => some (M9)))) (fun M10 => zgd (0 ≤ M10 76 45 ∧ M10 76 45 < 12) (zlt (zst M10 110 (M10 76 45).toNat (0)) (fun M11 => zb1 (g_X11_is k 423 M11) (fun v12 => zbr v12 0 (v12 = 0) (zb1 (zbr (M11 76 45) 0 (M11 76 45 ≤ 0) (some (0)) (some (1))) (fun x14 => zbr x14 0 (¬ x14 = 0) (zbr (M11 76 39) 41 (M11 76 39 = 41) (zlt (zst M11 76 45 ((M11 76 45) - 1)) (fun M15 => zb1 (g_X11_next k M15) (fun M16 => some (.inl (x14, M16))))) (zb1 (g_X11_errs k M11) (fun M17 => some (.inr (.inr (M17, 0)))))) (some (.inr (.inr (M11, 0)))))) (zgd (0 ≤ M11 76 45 ∧ M11 76 45 < 12) (zlt (zst M11 110 (M11 76 45).toNat (2)) (fun M18 => zb1 (g_X11_next k M18) (fun M19 => some (.inr (.inr (M19, 1)))))))))))))))))))) (some (.inr (.inl M3)))))))
theorem eb_X11_closes_2 {i : Nat} : fb_X11_closes_2 (zKn i) 76 = gb_X11_closes_2 (zKn i) := by
  funext y1 M0
  simp only [fb_X11_closes_2, gb_X11_closes_2, Int.cast_ofNat_Int, zq_76_44, e_X11_errs, e_X11_is, e_X11_next, e_X11_step, eb_X11_closes_13]
def g_X11_closes (k : zK) (M0 : zM) : Option (zM × Int) :=
  zsp1 (zw2 (gb_X11_closes_2 k) zfu 1 M0) (fun r => some (r)) (fun M20 => zgd (0 ≤ M20 76 45 ∧ M20 76 45 < 12) (zgd (0 ≤ M20 110 (M20 76 45).toNat ∧ M20 110 (M20 76 45).toNat ≤ 2147483647) (zb1 (zbr ((M20 110 (M20 76 45).toNat) % 2) 1 (¬ (M20 110 (M20 76 45).toNat) % 2 = 1) (some (M20)) (zb1 (g_X11_step k 2 0 0 0 M20) (fun M21 => some (M21)))) (fun M22 => zgd (0 ≤ M22 76 45 ∧ M22 76 45 < 12) (zgd (0 ≤ M22 110 (M22 76 45).toNat ∧ M22 110 (M22 76 45).toNat ≤ 2147483647) (zgd (0 ≤ M22 76 45 ∧ M22 76 45 < 12) (zlt (zst M22 110 (M22 76 45).toNat ((((M22 110 (M22 76 45).toNat) / 2) * 2) + 1)) (fun M23 => zb1 (g_X11_next k M23) (fun M24 => some (M24, 1))))))))))
theorem e_X11_closes {i : Nat} : f_X11_closes (zKn i) 76 = g_X11_closes (zKn i) := by
  funext M0
  simp only [f_X11_closes, g_X11_closes, Int.cast_ofNat_Int, zq_76_44, e_X11_next, e_X11_step, eb_X11_closes_2]
def gb_X11_copies_50 (k : zK) (l1 : Int) (l2 : Int) (y3 : Int) (M0 : zM) : Option ((Int × zM) ⊕ (zM)) :=
  zbr y3 256 (256 ≤ y3) (some (.inr M0)) (zgd (0 ≤ (256 * l1) + y3 ∧ (256 * l1) + y3 < 1024) (zgd (0 ≤ (256 * l2) + y3 ∧ (256 * l2) + y3 < 1024) (zlt (zst M0 82 ((256 * l2) + y3).toNat (M0 82 ((256 * l1) + y3).toNat)) (fun M5 => zgd (0 ≤ (256 * l1) + y3 ∧ (256 * l1) + y3 < 1024) (zgd (0 ≤ (256 * l2) + y3 ∧ (256 * l2) + y3 < 1024) (zlt (zst M5 83 ((256 * l2) + y3).toNat (M5 83 ((256 * l1) + y3).toNat)) (fun M6 => zgd (0 ≤ (256 * l1) + y3 ∧ (256 * l1) + y3 < 1024) (zgd (0 ≤ (256 * l2) + y3 ∧ (256 * l2) + y3 < 1024) (zlt (zst M6 84 ((256 * l2) + y3).toNat (M6 84 ((256 * l1) + y3).toNat)) (fun M7 => zgd (0 ≤ (256 * l1) + y3 ∧ (256 * l1) + y3 < 1024) (zgd (0 ≤ (256 * l2) + y3 ∧ (256 * l2) + y3 < 1024) (zlt (zst M7 85 ((256 * l2) + y3).toNat (M7 85 ((256 * l1) + y3).toNat)) (fun M8 => zlt (y3 + 1) (fun x9 => some (.inl (x9, M8))))))))))))))))
theorem eb_X11_copies_50 {i : Nat} : fb_X11_copies_50 (zKn i) 76 = gb_X11_copies_50 (zKn i) := by
  funext l1 l2 y3 M0
  simp only [fb_X11_copies_50, gb_X11_copies_50, Int.cast_ofNat_Int, zq_76_5, zq_76_6, zq_76_7, zq_76_8]
def gb_X11_copies_161 (k : zK) (l1 : Int) (l2 : Int) (y3 : Int) (M0 : zM) : Option ((Int × zM) ⊕ (zM)) :=
  zbr y3 80 (80 ≤ y3) (some (.inr M0)) (zgd (0 ≤ (80 * l1) + y3 ∧ (80 * l1) + y3 < 320) (zgd (0 ≤ (80 * l2) + y3 ∧ (80 * l2) + y3 < 320) (zlt (zst M0 86 ((80 * l2) + y3).toNat (M0 86 ((80 * l1) + y3).toNat)) (fun M11 => zgd (0 ≤ (80 * l1) + y3 ∧ (80 * l1) + y3 < 320) (zgd ((M11 95 ((80 * l1) + y3).toNat = 0 ∨ M11 95 ((80 * l1) + y3).toNat = 1) ∧ 0 ≤ (80 * l2) + y3 ∧ (80 * l2) + y3 < 320) (zlt (zst M11 95 ((80 * l2) + y3).toNat (M11 95 ((80 * l1) + y3).toNat)) (fun M12 => zlt (y3 + 1) (fun x13 => some (.inl (x13, M12))))))))))
theorem eb_X11_copies_161 {i : Nat} : fb_X11_copies_161 (zKn i) 76 = gb_X11_copies_161 (zKn i) := by
  funext l1 l2 y3 M0
  simp only [fb_X11_copies_161, gb_X11_copies_161, Int.cast_ofNat_Int, zq_76_9, zq_76_18]
def gb_X11_copies_219 (k : zK) (l1 : Int) (l2 : Int) (y3 : Int) (M0 : zM) : Option ((Int × zM) ⊕ (zM)) :=
  zbr y3 60 (60 ≤ y3) (some (.inr M0)) (zgd (0 ≤ (60 * l1) + y3 ∧ (60 * l1) + y3 < 240) (zgd (0 ≤ (60 * l2) + y3 ∧ (60 * l2) + y3 < 240) (zlt (zst M0 87 ((60 * l2) + y3).toNat (M0 87 ((60 * l1) + y3).toNat)) (fun M15 => zgd (0 ≤ (60 * l1) + y3 ∧ (60 * l1) + y3 < 240) (zgd (0 ≤ (60 * l2) + y3 ∧ (60 * l2) + y3 < 240) (zlt (zst M15 88 ((60 * l2) + y3).toNat (M15 88 ((60 * l1) + y3).toNat)) (fun M16 => zgd (0 ≤ (60 * l1) + y3 ∧ (60 * l1) + y3 < 240) (zgd (0 ≤ (60 * l2) + y3 ∧ (60 * l2) + y3 < 240) (zlt (zst M16 89 ((60 * l2) + y3).toNat (M16 89 ((60 * l1) + y3).toNat)) (fun M17 => zgd (0 ≤ (60 * l1) + y3 ∧ (60 * l1) + y3 < 240) (zgd (0 ≤ (60 * l2) + y3 ∧ (60 * l2) + y3 < 240) (zlt (zst M17 90 ((60 * l2) + y3).toNat (M17 90 ((60 * l1) + y3).toNat)) (fun M18 => zlt (y3 + 1) (fun x19 => some (.inl (x19, M18))))))))))))))))
theorem eb_X11_copies_219 {i : Nat} : fb_X11_copies_219 (zKn i) 76 = gb_X11_copies_219 (zKn i) := by
  funext l1 l2 y3 M0
  simp only [fb_X11_copies_219, gb_X11_copies_219, Int.cast_ofNat_Int, zq_76_10, zq_76_11, zq_76_12, zq_76_13]
def gb_X11_copies_321 (k : zK) (l1 : Int) (l2 : Int) (y3 : Int) (M0 : zM) : Option ((Int × zM) ⊕ (zM)) :=
  zbr y3 10 (10 ≤ y3) (some (.inr M0)) (zgd (0 ≤ (10 * l1) + y3 ∧ (10 * l1) + y3 < 40) (zgd (0 ≤ (10 * l2) + y3 ∧ (10 * l2) + y3 < 40) (zlt (zst M0 91 ((10 * l2) + y3).toNat (M0 91 ((10 * l1) + y3).toNat)) (fun M21 => zlt (y3 + 1) (fun x22 => some (.inl (x22, M21)))))))
theorem eb_X11_copies_321 {i : Nat} : fb_X11_copies_321 (zKn i) 76 = gb_X11_copies_321 (zKn i) := by
  funext l1 l2 y3 M0
  simp only [fb_X11_copies_321, gb_X11_copies_321, Int.cast_ofNat_Int, zq_76_14]
def gb_X11_copies_357 (k : zK) (l1 : Int) (l2 : Int) (y3 : Int) (M0 : zM) : Option ((Int × zM) ⊕ (zM)) :=
  zbr y3 40 (40 ≤ y3) (some (.inr M0)) (zgd (0 ≤ (40 * l1) + y3 ∧ (40 * l1) + y3 < 160) (zgd ((M0 96 ((40 * l1) + y3).toNat = 0 ∨ M0 96 ((40 * l1) + y3).toNat = 1) ∧ 0 ≤ (40 * l2) + y3 ∧ (40 * l2) + y3 < 160) (zlt (zst M0 96 ((40 * l2) + y3).toNat (M0 96 ((40 * l1) + y3).toNat)) (fun M24 => zgd (0 ≤ (40 * l1) + y3 ∧ (40 * l1) + y3 < 160) (zgd (0 ≤ (40 * l2) + y3 ∧ (40 * l2) + y3 < 160) (zlt (zst M24 92 ((40 * l2) + y3).toNat (M24 92 ((40 * l1) + y3).toNat)) (fun M25 => zgd (0 ≤ (40 * l1) + y3 ∧ (40 * l1) + y3 < 160) (zgd (0 ≤ (40 * l2) + y3 ∧ (40 * l2) + y3 < 160) (zlt (zst M25 93 ((40 * l2) + y3).toNat (M25 93 ((40 * l1) + y3).toNat)) (fun M26 => zgd (0 ≤ (40 * l1) + y3 ∧ (40 * l1) + y3 < 160) (zgd (0 ≤ (40 * l2) + y3 ∧ (40 * l2) + y3 < 160) (zlt (zst M26 94 ((40 * l2) + y3).toNat (M26 94 ((40 * l1) + y3).toNat)) (fun M27 => zlt (y3 + 1) (fun x28 => some (.inl (x28, M27))))))))))))))))
theorem eb_X11_copies_357 {i : Nat} : fb_X11_copies_357 (zKn i) 76 = gb_X11_copies_357 (zKn i) := by
  funext l1 l2 y3 M0
  simp only [fb_X11_copies_357, gb_X11_copies_357, Int.cast_ofNat_Int, zq_76_15, zq_76_16, zq_76_17, zq_76_19]
def g_X11_copies (k : zK) (p1 : Int) (p2 : Int) (M0 : zM) : Option zM :=
  zgd (0 ≤ p1 ∧ p1 < 4) (zgd (0 ≤ p2 ∧ p2 < 4) (zlt (zst M0 78 p2.toNat (M0 78 p1.toNat)) (fun M1 => zgd (0 ≤ p1 ∧ p1 < 4) (zgd (0 ≤ p2 ∧ p2 < 4) (zlt (zst M1 79 p2.toNat (M1 79 p1.toNat)) (fun M2 => zgd (0 ≤ p1 ∧ p1 < 4) (zgd (0 ≤ p2 ∧ p2 < 4) (zlt (zst M2 80 p2.toNat (M2 80 p1.toNat)) (fun M3 => zgd (0 ≤ p1 ∧ p1 < 4) (zgd (0 ≤ p2 ∧ p2 < 4) (zlt (zst M3 81 p2.toNat (M3 81 p1.toNat)) (fun M4 => zb1 (zw2 (gb_X11_copies_50 k p1 p2) zfu 0 M4) (fun M10 => zb1 (zw2 (gb_X11_copies_161 k p1 p2) zfu 0 M10) (fun M14 => zb1 (zw2 (gb_X11_copies_219 k p1 p2) zfu 0 M14) (fun M20 => zb1 (zw2 (gb_X11_copies_321 k p1 p2) zfu 0 M20) (fun M23 => zb1 (zw2 (gb_X11_copies_357 k p1 p2) zfu 0 M23) (fun M29 => some M29)))))))))))))))))
theorem e_X11_copies {i : Nat} : f_X11_copies (zKn i) 76 = g_X11_copies (zKn i) := by
  funext p1 p2 M0
  simp only [f_X11_copies, g_X11_copies, Int.cast_ofNat_Int, zq_76_1, zq_76_2, zq_76_3, zq_76_4, eb_X11_copies_161, eb_X11_copies_219, eb_X11_copies_321, eb_X11_copies_357, eb_X11_copies_50]
def gb_X11_mudMany_4 (k : zK) (M0 : zM) (y1 : Int) (y2 : Int) : Option ((Int × Int) ⊕ (Int)) :=
  zbr y2 256 (256 ≤ y2) (some (.inr y1)) (zgd (0 ≤ y2 ∧ y2 < 1024) (zbr (M0 85 y2.toNat) 0 (M0 85 y2.toNat < 0) (zlt (y1 + 0) (fun x1 => zlt (y2 + 1) (fun x2 => some (.inl (x1, x2))))) (zlt (y1 + 1) (fun x3 => zlt (y2 + 1) (fun x4 => some (.inl (x3, x4)))))))
theorem eb_X11_mudMany_4 {i : Nat} : fb_X11_mudMany_4 (zKn i) 76 = gb_X11_mudMany_4 (zKn i) := by
  funext M0 y1 y2
  simp only [fb_X11_mudMany_4, gb_X11_mudMany_4, Int.cast_ofNat_Int, zq_76_8]
def g_X11_mudMany (k : zK) (M0 : zM) : Option Int :=
  zb1 (zw2 (gb_X11_mudMany_4 k M0) zfu 0 0) (fun x5 => some x5)
theorem e_X11_mudMany {i : Nat} : f_X11_mudMany (zKn i) 76 = g_X11_mudMany (zKn i) := by
  funext M0
  simp only [f_X11_mudMany, g_X11_mudMany, Int.cast_ofNat_Int, eb_X11_mudMany_4]
def gb_X11_count_4 (k : zK) (l1 : Int) (M0 : zM) (y2 : Int) (y3 : Int) : Option ((Int × Int) ⊕ (Int)) :=
  zbr y3 256 (256 ≤ y3) (some (.inr y2)) (zgd (0 ≤ y3 ∧ y3 < 1024) (zlt (y2 + (M0 84 y3.toNat)) (fun x1 => zlt (y3 + 1) (fun x2 => some (.inl (x1, x2))))))
theorem eb_X11_count_4 {i : Nat} : fb_X11_count_4 (zKn i) 76 = gb_X11_count_4 (zKn i) := by
  funext l1 M0 y2 y3
  simp only [fb_X11_count_4, gb_X11_count_4, Int.cast_ofNat_Int, zq_76_7]
def g_X11_count (k : zK) (p1 : Int) (M0 : zM) : Option Int :=
  zb1 (zw2 (gb_X11_count_4 k p1 M0) zfu 0 0) (fun x3 => zgd (zr p1) (if p1 = 0 then (zgd (0 ≤ (0 : Int) ∧ (0 : Int) < 2) (some (M0 97 (Int.toNat 0)))) else (if p1 = 1 then (zgd (0 ≤ (0 : Int) ∧ (0 : Int) < 4) (some (M0 78 (Int.toNat 0)))) else (if p1 = 2 then (zgd (0 ≤ (0 : Int) ∧ (0 : Int) < 4) (some (M0 79 (Int.toNat 0)))) else (if p1 = 3 then (some x3) else (if p1 = 4 then (zgd (0 ≤ (0 : Int) ∧ (0 : Int) < 4) (some (M0 80 (Int.toNat 0)))) else (if p1 = 5 then (zb1 (g_X11_mudMany k M0) (fun v17 => some v17)) else (if p1 = 6 then (some (M0 76 34)) else (if p1 = 7 then (some (M0 76 20)) else (if p1 = 8 then (zgd (0 ≤ p1 - 8 ∧ p1 - 8 < 3) (some (M0 77 (p1 - 8).toNat))) else (if p1 = 9 then (zgd (0 ≤ p1 - 8 ∧ p1 - 8 < 3) (some (M0 77 (p1 - 8).toNat))) else (if p1 = 10 then (zgd (0 ≤ p1 - 8 ∧ p1 - 8 < 3) (some (M0 77 (p1 - 8).toNat))) else (if p1 = 11 then (zb1 (g_X11_catches k M0) (fun v31 => some v31)) else (if p1 = 12 then (zb1 (g_X11_last k 5 (p1 - 12) M0) (fun v35 => some v35)) else (if p1 = 13 then (zb1 (g_X11_last k 5 (p1 - 12) M0) (fun v39 => some v39)) else (if p1 = 14 then (zb1 (g_X11_last k 5 (p1 - 12) M0) (fun v43 => some v43)) else (if p1 = 15 then (zgd (0 ≤ (0 : Int) ∧ (0 : Int) < 4) (some (M0 81 (Int.toNat 0)))) else (some (-1)))))))))))))))))))
theorem e_X11_count {i : Nat} : f_X11_count (zKn i) 76 = g_X11_count (zKn i) := by
  funext p1 M0
  simp only [f_X11_count, g_X11_count, Int.cast_ofNat_Int, zq_76_0, zq_76_1, zq_76_2, zq_76_3, zq_76_4, zq_76_21, e_X11_catches, e_X11_last, e_X11_mudMany, eb_X11_count_4]
def gb_X11_doesFit_7 (k : zK) (l1 : Int) (y2 : Int) (M0 : zM) : Option ((Int × zM) ⊕ ((zM) ⊕ (zM × Int))) :=
  zgd (0 ≤ l1 ∧ l1 < 160) (zbr y2 (M0 94 l1.toNat) (M0 94 l1.toNat < y2) (some (.inr (.inr (M0, 0)))) (zb1 (g_X11_findSea k y2 M0) (fun M2 => zgd (0 ≤ l1 ∧ l1 < 160) (zbr (M2 96 l1.toNat) 0 (M2 96 l1.toNat = 0) (zgd (0 ≤ l1 ∧ l1 < 160) (zbr (M2 76 49) (M2 92 l1.toNat) (M2 76 49 < M2 92 l1.toNat) (zlt (y2 + 1) (fun x3 => some (.inl (x3, M2)))) (some (.inr (.inr (M2, 1)))))) (zgd (0 ≤ l1 ∧ l1 < 160) (zbr (M2 76 48) (M2 92 l1.toNat) (M2 92 l1.toNat ≤ M2 76 48) (zlt (y2 + 1) (fun x4 => some (.inl (x4, M2)))) (some (.inr (.inl M2)))))))))
theorem eb_X11_doesFit_7 {i : Nat} : fb_X11_doesFit_7 (zKn i) 76 = gb_X11_doesFit_7 (zKn i) := by
  funext l1 y2 M0
  simp only [fb_X11_doesFit_7, gb_X11_doesFit_7, Int.cast_ofNat_Int, zq_76_15, zq_76_17, zq_76_19, e_X11_findSea]
def g_X11_doesFit (k : zK) (p1 : Int) (M0 : zM) : Option (zM × Int) :=
  zgd (0 ≤ p1 ∧ p1 < 160) (zlt (M0 93 p1.toNat) (fun x1 => zsp1 (zw2 (gb_X11_doesFit_7 k p1) zfu x1 M0) (fun r => some (r)) (fun M5 => some (M5, 1))))
theorem e_X11_doesFit {i : Nat} : f_X11_doesFit (zKn i) 76 = g_X11_doesFit (zKn i) := by
  funext p1 M0
  simp only [f_X11_doesFit, g_X11_doesFit, Int.cast_ofNat_Int, zq_76_16, eb_X11_doesFit_7]
def gb_X11_learn_12 (k : zK) (l1 : Int) (l2 : Int) (y3 : Int) (M0 : zM) : Option ((Int × zM) ⊕ (zM)) :=
  zgd (0 ≤ (0 : Int) ∧ (0 : Int) < 4) (zbr y3 (M0 78 (Int.toNat 0)) (M0 78 (Int.toNat 0) ≤ y3) (some (.inr M0)) (zbr y3 l2 (y3 = l2) (zlt (y3 + 1) (fun x3 => some (.inl (x3, M0)))) (zsp1 (zbr l1 0 (l1 < 0) (some (.inl y3)) (zgd (0 ≤ y3 ∧ y3 < 320) (zbr (M0 86 y3.toNat) l1 (M0 86 y3.toNat = l1) (some (.inl y3)) (zlt (y3 + 1) (fun x4 => some (.inr (.inl (x4, M0)))))))) (fun r => some r) (fun x5 => zlt (zst M0 76 62 ((M0 76 62) + 1)) (fun M6 => zgd (0 ≤ x5 ∧ x5 < 320) (zbr (M6 95 x5.toNat) 0 (M6 95 x5.toNat = 0) (zlt (zst M6 76 61 ((M6 76 61) + 0)) (fun M7 => zlt (x5 + 1) (fun x8 => some (.inl (x8, M7))))) (zlt (zst M6 76 61 ((M6 76 61) + 1)) (fun M9 => zlt (x5 + 1) (fun x10 => some (.inl (x10, M9)))))))))))
theorem eb_X11_learn_12 {i : Nat} : fb_X11_learn_12 (zKn i) 76 = gb_X11_learn_12 (zKn i) := by
  funext l1 l2 y3 M0
  simp only [fb_X11_learn_12, gb_X11_learn_12, Int.cast_ofNat_Int, zq_76_1, zq_76_9, zq_76_18]
def g_X11_learn (k : zK) (p1 : Int) (p2 : Int) (M0 : zM) : Option zM :=
  zlt (zst M0 76 61 1) (fun M1 => zlt (zst M1 76 62 2) (fun M2 => zb1 (zw2 (gb_X11_learn_12 k p1 p2) zfu 0 M2) (fun M11 => some M11)))
theorem e_X11_learn {i : Nat} : f_X11_learn (zKn i) 76 = g_X11_learn (zKn i) := by
  funext p1 p2 M0
  simp only [f_X11_learn, g_X11_learn, Int.cast_ofNat_Int, eb_X11_learn_12]
def g_X11_findLeft (k : zK) (p1 : Int) (M0 : zM) : Option zM :=
  zlt (zst M0 76 63 0) (fun M1 => zlt (zst M1 76 64 1) (fun M2 => zgd (0 ≤ p1 ∧ p1 < 256) (zbr (M2 118 p1.toNat) 0 (¬ M2 118 p1.toNat = 0) (zb1 (g_X11_kindOf k p1 M2) (fun v3 => zb1 (g_X11_learn k v3 (-1) M2) (fun M5 => zgd (zr (M5 76 61)) (zb1 (g_X11_catches k M5) (fun v6 => zgd (zr (10 - v6)) (zgd (0 ≤ p1 ∧ p1 < 1024) (zb1 (f_X11_power k (10 - v6) (M5 84 p1.toNat) M5) (fun v8 => zlt (zst M5 76 63 ((M5 76 61) * v8)) (fun M10 => zgd (zr ((M10 76 62) - (M10 76 61))) (zgd (0 ≤ p1 ∧ p1 < 1024) (zb1 (f_X11_power k 10 (M10 84 p1.toNat) M10) (fun v11 => zlt (zst M10 76 64 ((M10 76 63) + (((M10 76 62) - (M10 76 61)) * v11))) (fun M13 => some M13))))))))))))) (some M2))))
theorem e_X11_findLeft {i : Nat} : f_X11_findLeft (zKn i) 76 = g_X11_findLeft (zKn i) := by
  funext p1 M0
  simp only [f_X11_findLeft, g_X11_findLeft, Int.cast_ofNat_Int, zq_76_7, zq_76_55, e_X11_catches, e_X11_kindOf, e_X11_learn]
def gb_X11_doubt_33 (k : zK) (y2 : Int) (y3 : Int) (y5 : Int) (y7 : Int) (M0 : zM) : Option ((Int × Int × Int × Int × zM) ⊕ (Int × zM)) :=
  zgd (0 ≤ (0 : Int) ∧ (0 : Int) < 4) (zbr y7 (M0 80 (Int.toNat 0)) (M0 80 (Int.toNat 0) ≤ y7) (some (.inr (y2, M0))) (zgd (0 ≤ y7 ∧ y7 < 40) (zb1 (g_X11_findLeft k (M0 91 y7.toNat) M0) (fun M4 => zb1 (f_X11_divisor k (M4 76 63) (M4 76 64) M4) (fun v5 => zgd ((0 ≤ M4 76 63 ∧ M4 76 63 ≤ 9223372036854775807) ∧ 0 < v5 ∧ v5 ≤ 9223372036854775807) (zlt ((M4 76 63) / v5) (fun x7 => zgd ((0 ≤ M4 76 64 ∧ M4 76 64 ≤ 9223372036854775807) ∧ 0 < v5 ∧ v5 ≤ 9223372036854775807) (zlt ((M4 76 64) / v5) (fun x8 => zb1 (zbl (2 * x7) x8 (2 * x7 ≤ x8) (some (x8 - (2 * x7))) (some ((2 * x7) - x8))) (fun x9 => zsp1 (zbr y2 0 (y2 < 0) (some (.inl y7)) (zb1 (f_X11_isNotLess k x9 x8 y3 y5 M4) (fun v10 => zbr v10 0 (v10 = 0) (some (.inl y7)) (zlt (y7 + 1) (fun x12 => some (.inr (.inl (y2, y3, y5, x12, M4)))))))) (fun r => some r) (fun x13 => zlt (x13 + 1) (fun x14 => some (.inl (x13, x9, x8, x14, M4))))))))))))))
theorem eb_X11_doubt_33 {i : Nat} : fb_X11_doubt_33 (zKn i) 76 = gb_X11_doubt_33 (zKn i) := by
  funext y2 y3 y5 y7 M0
  simp only [fb_X11_doubt_33, gb_X11_doubt_33, Int.cast_ofNat_Int, zq_76_3, zq_76_14, e_X11_findLeft]
def g_X11_doubt (k : zK) (p1 : Int) (M0 : zM) : Option (zM × Int) :=
  zb1 (f_X11_isAge k p1 M0) (fun v1 => zbr v1 0 (v1 = 0) (some (M0, (-1))) (zgd (0 ≤ (0 : Int) ∧ (0 : Int) < 4) (zbr (M0 80 (Int.toNat 0)) 0 (¬ M0 80 (Int.toNat 0) = 0) (zb1 (g_X11_finds k p1 M0) (fun M3 => zb2 (zw5 (gb_X11_doubt_33 k) zfu (-1) 0 1 0 M3) (fun x15 M16 => some (M16, x15)))) (some (M0, (-1))))))
theorem e_X11_doubt {i : Nat} : f_X11_doubt (zKn i) 76 = g_X11_doubt (zKn i) := by
  funext p1 M0
  simp only [f_X11_doubt, g_X11_doubt, Int.cast_ofNat_Int, zq_76_3, e_X11_finds, eb_X11_doubt_33]
def g_X11_draw (k : zK) (p1 : Int) (M0 : zM) : Option (zM × Int) :=
  zlt (zst M0 76 70 (((M0 76 70) * 6364136223846793005) + 1442695040888963407)) (fun M1 => zgd (zr p1) (zgd ((0 ≤ zo_lushr (M1 76 70) 33 ∧ zo_lushr (M1 76 70) 33 ≤ 9223372036854775807) ∧ 0 < p1 ∧ p1 ≤ 9223372036854775807) (some (M1, (zo_lushr (M1 76 70) 33) % p1))))
theorem e_X11_draw {i : Nat} : f_X11_draw (zKn i) 76 = g_X11_draw (zKn i) := by
  funext p1 M0
  simp only [f_X11_draw, g_X11_draw, Int.cast_ofNat_Int]
def g_X11_dry (k : zK) (p1 : Int) (p2 : Int) (M0 : zM) : Option (zM × Int) :=
  zb1 (f_X11_within k p1 0 15 M0) (fun v1 => zbr v1 0 (¬ v1 = 0) (zgd (0 ≤ (0 : Int) ∧ (0 : Int) < 4) (zbr (M0 78 (Int.toNat 0)) 80 (¬ M0 78 (Int.toNat 0) = 80) (zgd (0 ≤ (0 : Int) ∧ (0 : Int) < 4) (zgd (0 ≤ M0 78 (Int.toNat 0) ∧ M0 78 (Int.toNat 0) < 320) (zlt (zst M0 86 (M0 78 (Int.toNat 0)).toNat (p1)) (fun M3 => zgd (0 ≤ (0 : Int) ∧ (0 : Int) < 4) (zgd ((p2 = 0 ∨ p2 = 1) ∧ 0 ≤ M3 78 (Int.toNat 0) ∧ M3 78 (Int.toNat 0) < 320) (zlt (zst M3 95 (M3 78 (Int.toNat 0)).toNat (p2)) (fun M4 => zgd (0 ≤ (0 : Int) ∧ (0 : Int) < 4) (zgd (0 ≤ (0 : Int) ∧ (0 : Int) < 4) (zlt (zst M4 78 (Int.toNat 0) ((M4 78 (Int.toNat 0)) + 1)) (fun M5 => zgd (0 ≤ (0 : Int) ∧ (0 : Int) < 4) (some (M5, M5 78 (Int.toNat 0))))))))))))) (zbd (g_X11_refuses k 1 M0) (fun M7 v6 => some (M7, v6))))) (zbd (g_X11_refuses k 0 M0) (fun M9 v8 => some (M9, v8))))
theorem e_X11_dry {i : Nat} : f_X11_dry (zKn i) 76 = g_X11_dry (zKn i) := by
  funext p1 p2 M0
  simp only [f_X11_dry, g_X11_dry, Int.cast_ofNat_Int, zq_76_1, zq_76_9, zq_76_18, e_X11_refuses]
def gb_X11_endOf_2 (k : zK) (M0 : zM) (y2 : Int) : Option ((Int) ⊕ (Int)) :=
  zgd (0 ≤ y2 ∧ y2 < 256) (zbr (M0 115 y2.toNat) 0 (M0 115 y2.toNat < 0) (some (.inr y2)) (zgd (0 ≤ y2 ∧ y2 < 256) (zlt (M0 115 y2.toNat) (fun x1 => some (.inl (x1))))))
theorem eb_X11_endOf_2 {i : Nat} : fb_X11_endOf_2 (zKn i) 76 = gb_X11_endOf_2 (zKn i) := by
  funext M0 y2
  simp only [fb_X11_endOf_2, gb_X11_endOf_2, Int.cast_ofNat_Int, zq_76_52]
def g_X11_endOf (k : zK) (p1 : Int) (M0 : zM) : Option Int :=
  zb1 (zw1 (gb_X11_endOf_2 k M0) zfu p1) (fun x2 => some x2)
theorem e_X11_endOf {i : Nat} : f_X11_endOf (zKn i) 76 = g_X11_endOf (zKn i) := by
  funext p1 M0
  simp only [f_X11_endOf, g_X11_endOf, Int.cast_ofNat_Int, eb_X11_endOf_2]
def gb_X11_ends_34 (k : zK) (l2 : Int) (l3 : Int) (M0 : zM) (y4 : Int) (y5 : Int) : Option ((Int × Int) ⊕ (Int)) :=
  zbr y5 256 (256 ≤ y5) (some (.inr y4)) (zb1 (g_X11_endOf k y5 M0) (fun v8 => zbr v8 l3 (¬ v8 = l3) (zlt (y4 + 0) (fun x10 => zlt (y5 + 1) (fun x11 => some (.inl (x10, x11))))) (zlt (y4 + 1) (fun x12 => zlt (y5 + 1) (fun x13 => some (.inl (x12, x13)))))))
theorem eb_X11_ends_34 {i : Nat} : fb_X11_ends_34 (zKn i) 76 = gb_X11_ends_34 (zKn i) := by
  funext l2 l3 M0 y4 y5
  simp only [fb_X11_ends_34, gb_X11_ends_34, Int.cast_ofNat_Int, e_X11_endOf]
def g_X11_ends (k : zK) (p1 : Int) (p2 : Int) (M0 : zM) : Option (zM × Int) :=
  zb1 (f_X11_isCell k p1 M0) (fun v1 => zbr v1 0 (v1 = 0) (some (M0, (-1))) (zb1 (f_X11_within k p2 0 1 M0) (fun v3 => zbr v3 0 (¬ v3 = 0) (zb1 (g_X11_findGround k M0) (fun M5 => zb1 (g_X11_endOf k p1 M5) (fun v6 => zb1 (zw2 (gb_X11_ends_34 k p2 v6 M5) zfu 0 0) (fun x14 => zbr p2 0 (¬ p2 = 0) (some (M5, x14)) (some (M5, v6)))))) (some (M0, (-1))))))
theorem e_X11_ends {i : Nat} : f_X11_ends (zKn i) 76 = g_X11_ends (zKn i) := by
  funext p1 p2 M0
  simp only [f_X11_ends, g_X11_ends, Int.cast_ofNat_Int, e_X11_endOf, e_X11_findGround, eb_X11_ends_34]
def g_X11_fault (k : zK) (M0 : zM) : Option Int :=
  some (M0 76 35)
theorem e_X11_fault {i : Nat} : f_X11_fault (zKn i) 76 = g_X11_fault (zKn i) := by
  funext M0
  simp only [f_X11_fault, g_X11_fault, Int.cast_ofNat_Int]
def gb_X11_feed_18 (k : zK) (l1 : Int) (l2 : Int) (l3 : Int) (l4 : Int) (l5 : Int) (y6 : Int) (M0 : zM) : Option ((Int × zM) ⊕ (zM)) :=
  zbr y6 20 (20 ≤ y6) (some (.inr M0)) (zb1 (zbr y6 4 (4 ≤ y6) (zbr y6 8 (8 ≤ y6) (zbr y6 12 (12 ≤ y6) (zbr y6 16 (16 ≤ y6) (some (l5)) (some (l4))) (some (l3))) (some (l2))) (some (l1))) (fun x1 => zgd (0 ≤ y6 ∧ y6 ≤ 2147483647) (zgd (0 ≤ M0 76 34 ∧ M0 76 34 < 700) (zlt (zst M0 108 (M0 76 34).toNat (zo_i2b (zo_i2b (zo_shr x1 (24 - (8 * (y6 % 4))))))) (fun M2 => zlt (zst M2 76 34 ((M2 76 34) + 1)) (fun M3 => zlt (y6 + 1) (fun x4 => some (.inl (x4, M3)))))))))
theorem eb_X11_feed_18 {i : Nat} : fb_X11_feed_18 (zKn i) 76 = gb_X11_feed_18 (zKn i) := by
  funext l1 l2 l3 l4 l5 y6 M0
  simp only [fb_X11_feed_18, gb_X11_feed_18, Int.cast_ofNat_Int, zq_76_33]
def g_X11_feed (k : zK) (p1 : Int) (p2 : Int) (p3 : Int) (p4 : Int) (p5 : Int) (M0 : zM) : Option (zM × Int) :=
  zbr ((M0 76 34) + 20) 700 ((M0 76 34) + 20 ≤ 700) (zb1 (zw2 (gb_X11_feed_18 k p1 p2 p3 p4 p5) zfu 0 M0) (fun M5 => some (M5, M5 76 34))) (some (M0, (-1)))
theorem e_X11_feed {i : Nat} : f_X11_feed (zKn i) 76 = g_X11_feed (zKn i) := by
  funext p1 p2 p3 p4 p5 M0
  simp only [f_X11_feed, g_X11_feed, Int.cast_ofNat_Int, eb_X11_feed_18]
def g_X11_find (k : zK) (p1 : Int) (p2 : Int) (p3 : Int) (p4 : Int) (M0 : zM) : Option (zM × Int) :=
  zb1 (f_X11_isCell k p1 M0) (fun v1 => zsp1 (zbr v1 0 (v1 = 0) (some (.inl M0)) (zb1 (f_X11_within k p2 0 2 M0) (fun v3 => zbr v3 0 (v3 = 0) (some (.inl M0)) (zb1 (f_X11_areAges k p3 p4 M0) (fun v5 => zbr v5 0 (¬ v5 = 0) (zgd (0 ≤ (0 : Int) ∧ (0 : Int) < 4) (zbr (M0 79 (Int.toNat 0)) 60 (¬ M0 79 (Int.toNat 0) = 60) (zgd (0 ≤ (0 : Int) ∧ (0 : Int) < 4) (zlt (M0 79 (Int.toNat 0)) (fun x7 => zgd (0 ≤ x7 ∧ x7 < 240) (zlt (zst M0 87 x7.toNat (p1)) (fun M8 => zgd (0 ≤ x7 ∧ x7 < 240) (zlt (zst M8 88 x7.toNat (p2)) (fun M9 => zgd (0 ≤ x7 ∧ x7 < 240) (zlt (zst M9 89 x7.toNat (p3)) (fun M10 => zgd (0 ≤ x7 ∧ x7 < 240) (zlt (zst M10 90 x7.toNat (p4)) (fun M11 => zgd (0 ≤ (0 : Int) ∧ (0 : Int) < 4) (zgd (0 ≤ (0 : Int) ∧ (0 : Int) < 4) (zlt (zst M11 79 (Int.toNat 0) ((M11 79 (Int.toNat 0)) + 1)) (fun M12 => some (.inr (M12, x7)))))))))))))))) (zbd (g_X11_refuses k 1 M0) (fun M14 v13 => some (.inr (M14, v13)))))) (some (.inl M0))))))) (fun r => some r) (fun M15 => zbd (g_X11_refuses k 0 M15) (fun M17 v16 => some (M17, v16))))
theorem e_X11_find {i : Nat} : f_X11_find (zKn i) 76 = g_X11_find (zKn i) := by
  funext p1 p2 p3 p4 M0
  simp only [f_X11_find, g_X11_find, Int.cast_ofNat_Int, zq_76_2, zq_76_10, zq_76_11, zq_76_12, zq_76_13, e_X11_refuses]
def gb_X11_fits_15 (k : zK) (l1 : Int) (y2 : Int) (y3 : Int) (M0 : zM) : Option ((Int × Int × zM) ⊕ ((Int × zM) ⊕ (zM × Int))) :=
  zgd (0 ≤ (0 : Int) ∧ (0 : Int) < 4) (zbr y3 (M0 81 (Int.toNat 0)) (M0 81 (Int.toNat 0) ≤ y3) (some (.inr (.inl (y2, M0)))) (zbd (g_X11_doesFit k y3 M0) (fun M4 v3 => zsp0 (zbr v3 0 (¬ v3 = 0) (some (.inl ())) (zbr l1 0 (¬ l1 = 0) (some (.inl ())) (some (.inr (.inr (.inr (M4, y3))))))) (fun r => some r) (zbr v3 0 (v3 = 0) (zlt (y2 + 0) (fun x5 => zlt (y3 + 1) (fun x6 => some (.inl (x5, x6, M4))))) (zlt (y2 + 1) (fun x7 => zlt (y3 + 1) (fun x8 => some (.inl (x7, x8, M4)))))))))
theorem eb_X11_fits_15 {i : Nat} : fb_X11_fits_15 (zKn i) 76 = gb_X11_fits_15 (zKn i) := by
  funext l1 y2 y3 M0
  simp only [fb_X11_fits_15, gb_X11_fits_15, Int.cast_ofNat_Int, zq_76_4, e_X11_doesFit]
def g_X11_fits (k : zK) (p1 : Int) (M0 : zM) : Option (zM × Int) :=
  zb1 (f_X11_within k p1 (-1) 0 M0) (fun v1 => zbr v1 0 (¬ v1 = 0) (zsp2 (zw3 (gb_X11_fits_15 k p1) zfu 0 0 M0) (fun r => some (r)) (fun x9 M10 => zbr p1 0 (¬ p1 = 0) (some (M10, x9)) (some (M10, (-1))))) (some (M0, (-1))))
theorem e_X11_fits {i : Nat} : f_X11_fits (zKn i) 76 = g_X11_fits (zKn i) := by
  funext p1 M0
  simp only [f_X11_fits, g_X11_fits, Int.cast_ofNat_Int, eb_X11_fits_15]
def g_X11_isBank (k : zK) (p1 : Int) (p2 : Int) (p3 : Int) (M0 : zM) : Option Int :=
  zb1 (f_X11_beside k p1 p2 M0) (fun v1 => zbr v1 0 (v1 < 0) (some 0) (zgd (0 ≤ v1 ∧ v1 < 256) (zbr (M0 118 v1.toNat) 0 (M0 118 v1.toNat = 0) (some 0) (zgd (0 ≤ v1 ∧ v1 < 256) (zbr (M0 116 v1.toNat) p3 (p3 ≤ M0 116 v1.toNat) (some 0) (some 1))))))
theorem e_X11_isBank {i : Nat} : f_X11_isBank (zKn i) 76 = g_X11_isBank (zKn i) := by
  funext p1 p2 p3 M0
  simp only [f_X11_isBank, g_X11_isBank, Int.cast_ofNat_Int, zq_76_53, zq_76_55]
def gb_X11_ford_35 (k : zK) (l2 : Int) (l3 : Int) (M0 : zM) (y4 : Int) (y5 : Int) : Option ((Int × Int) ⊕ ((Int) ⊕ (zM × Int))) :=
  zbr y5 256 (256 ≤ y5) (some (.inr (.inl y4))) (zb1 (g_X11_isBank k y5 0 l2 M0) (fun v6 => zsp2 (zbr v6 0 (v6 = 0) (some (.inl (y4, y5))) (zb1 (g_X11_isBank k y5 1 l2 M0) (fun v8 => zbr v8 0 (¬ v8 = 0) (zgd (0 ≤ y5 ∧ y5 < 256) (zbr (M0 118 y5.toNat) 0 (M0 118 y5.toNat = 0) (zlt (y5 + 1) (fun x10 => some (.inr (.inl (y4, x10))))) (zgd (0 ≤ y5 ∧ y5 < 256) (zbr (M0 116 y5.toNat) l2 (M0 116 y5.toNat < l2) (zlt (y5 + 1) (fun x11 => some (.inr (.inl (y4, x11))))) (zbr 1 0 (¬ (1 : Int) = 0) (zbr y4 l3 (¬ y4 = l3) (zlt (y4 + 1) (fun x12 => zlt (y5 + 1) (fun x13 => some (.inr (.inl (x12, x13)))))) (some (.inr (.inr (.inr (M0, y5)))))) (zlt (y5 + 1) (fun x14 => some (.inr (.inl (y4, x14)))))))))) (some (.inl (y4, y5)))))) (fun r => some r) (fun x15 x16 => zb1 (g_X11_isBank k x16 2 l2 M0) (fun v17 => zsp2 (zbr v17 0 (v17 = 0) (some (.inl (x15, x16))) (zb1 (g_X11_isBank k x16 3 l2 M0) (fun v19 => zbr v19 0 (v19 = 0) (some (.inl (x15, x16))) (zgd (0 ≤ x16 ∧ x16 < 256) (zbr (M0 118 x16.toNat) 0 (M0 118 x16.toNat = 0) (zlt (x16 + 1) (fun x21 => some (.inr (.inl (x15, x21))))) (zgd (0 ≤ x16 ∧ x16 < 256) (zbr (M0 116 x16.toNat) l2 (M0 116 x16.toNat < l2) (zlt (x16 + 1) (fun x22 => some (.inr (.inl (x15, x22))))) (zbr 1 0 (¬ (1 : Int) = 0) (zbr x15 l3 (¬ x15 = l3) (zlt (x15 + 1) (fun x23 => zlt (x16 + 1) (fun x24 => some (.inr (.inl (x23, x24)))))) (some (.inr (.inr (.inr (M0, x16)))))) (zlt (x16 + 1) (fun x25 => some (.inr (.inl (x15, x25))))))))))))) (fun r => some r) (fun x26 x27 => zgd (0 ≤ x27 ∧ x27 < 256) (zbr (M0 118 x27.toNat) 0 (M0 118 x27.toNat = 0) (zlt (x27 + 1) (fun x28 => some (.inl (x26, x28)))) (zgd (0 ≤ x27 ∧ x27 < 256) (zbr (M0 116 x27.toNat) l2 (M0 116 x27.toNat < l2) (zlt (x27 + 1) (fun x29 => some (.inl (x26, x29)))) (zbr 0 0 (¬ (0 : Int) = 0) (zbr x26 l3 (¬ x26 = l3) (zlt (x26 + 1) (fun x30 => zlt (x27 + 1) (fun x31 => some (.inl (x30, x31))))) (some (.inr (.inr (M0, x27))))) (zlt (x27 + 1) (fun x32 => some (.inl (x26, x32)))))))))))))
theorem eb_X11_ford_35 {i : Nat} : fb_X11_ford_35 (zKn i) 76 = gb_X11_ford_35 (zKn i) := by
  funext l2 l3 M0 y4 y5
  simp only [fb_X11_ford_35, gb_X11_ford_35, Int.cast_ofNat_Int, zq_76_53, zq_76_55, e_X11_isBank]
def g_X11_ford (k : zK) (p1 : Int) (p2 : Int) (p3 : Int) (M0 : zM) : Option (zM × Int) :=
  zb1 (f_X11_isAge k p1 M0) (fun v1 => zbr v1 0 (v1 = 0) (some (M0, (-1))) (zb1 (f_X11_within k p2 2 99 M0) (fun v3 => zbr v3 0 (v3 = 0) (some (M0, (-1))) (zbr p3 (-1) ((-1) ≤ p3) (zb1 (g_X11_finds k p1 M0) (fun M5 => zsp1 (zw2 (gb_X11_ford_35 k p2 p3 M5) zfu 0 0) (fun r => some (r)) (fun x33 => zbr p3 (-1) (¬ p3 = (-1)) (some (M5, (-1))) (some (M5, x33))))) (some (M0, (-1)))))))
theorem e_X11_ford {i : Nat} : f_X11_ford (zKn i) 76 = g_X11_ford (zKn i) := by
  funext p1 p2 p3 M0
  simp only [f_X11_ford, g_X11_ford, Int.cast_ofNat_Int, e_X11_finds, eb_X11_ford_35]
def g_X11_found (k : zK) (p1 : Int) (p2 : Int) (M0 : zM) : Option Int :=
  zb1 (g_X11_isFind k p1 M0) (fun v1 => zbr v1 0 (v1 = 0) (some (-1)) (zb1 (f_X11_within k p2 0 3 M0) (fun v3 => zbr v3 0 (¬ v3 = 0) (zbr p2 0 (¬ p2 = 0) (zbr p2 1 (¬ p2 = 1) (zbr p2 2 (¬ p2 = 2) (zgd (0 ≤ p1 ∧ p1 < 240) (some (M0 90 p1.toNat))) (zgd (0 ≤ p1 ∧ p1 < 240) (some (M0 89 p1.toNat)))) (zgd (0 ≤ p1 ∧ p1 < 240) (some (M0 88 p1.toNat)))) (zgd (0 ≤ p1 ∧ p1 < 240) (some (M0 87 p1.toNat)))) (some (-1)))))
theorem e_X11_found {i : Nat} : f_X11_found (zKn i) 76 = g_X11_found (zKn i) := by
  funext p1 p2 M0
  simp only [f_X11_found, g_X11_found, Int.cast_ofNat_Int, zq_76_10, zq_76_11, zq_76_12, zq_76_13, e_X11_isFind]
def gb_X11_goesOn_13 (k : zK) (l1 : Int) (M0 : zM) (y2 : Int) : Option ((Int) ⊕ (Int)) :=
  zbr y2 0 (y2 < 0) (some (.inr y2)) (zgd (0 ≤ y2 ∧ y2 < 10) (zbr (M0 124 y2.toNat) 0 (¬ M0 124 y2.toNat = 0) (some (.inr y2)) (zlt (y2 + (-1)) (fun x3 => some (.inl (x3))))))
theorem eb_X11_goesOn_13 {i : Nat} : fb_X11_goesOn_13 (zKn i) 76 = gb_X11_goesOn_13 (zKn i) := by
  funext l1 M0 y2
  simp only [fb_X11_goesOn_13, gb_X11_goesOn_13, Int.cast_ofNat_Int, zq_76_67]
def g_X11_goesOn (k : zK) (M0 : zM) : Option (zM × Int) :=
  zgd (0 ≤ (0 : Int) ∧ (0 : Int) < 4) (zlt ((M0 80 (Int.toNat 0)) - 1) (fun x1 => zlt (x1 - 1) (fun x2 => zb1 (zw1 (gb_X11_goesOn_13 k x1 M0) zfu x2) (fun x4 => zbr x4 0 (0 ≤ x4) (zgd (0 ≤ x1 ∧ x1 < 10) (zlt (M0 124 x1.toNat) (fun x5 => zgd (0 ≤ x1 ∧ x1 < 10) (zlt (zst M0 124 x1.toNat (0)) (fun M6 => zgd (0 ≤ x4 ∧ x4 < 10) (zgd (0 ≤ x4 ∧ x4 < 10) (zlt (zst M6 124 x4.toNat ((M6 124 x4.toNat) - 1)) (fun M7 => zgd (0 ≤ x4 + 1 ∧ x4 + 1 < 10) (zlt (zst M7 124 (x4 + 1).toNat (x5 + 1)) (fun M8 => some (M8, 1))))))))))) (some (M0, 0))))))
theorem e_X11_goesOn {i : Nat} : f_X11_goesOn (zKn i) 76 = g_X11_goesOn (zKn i) := by
  funext M0
  simp only [f_X11_goesOn, g_X11_goesOn, Int.cast_ofNat_Int, zq_76_3, zq_76_67, eb_X11_goesOn_13]
def g_X11_isGone (k : zK) (p1 : Int) (p2 : Int) (p3 : Int) (M0 : zM) : Option Int :=
  zgd (0 ≤ p1 ∧ p1 < 256) (zbr (M0 118 p1.toNat) 0 (M0 118 p1.toNat = 0) (some 0) (zb1 (g_X11_heightOf k p1 M0) (fun v1 => zgd (0 ≤ p1 ∧ p1 < 256) (zbr v1 (p2 - (p3 * (M0 120 p1.toNat))) (p2 - (p3 * (M0 120 p1.toNat)) ≤ v1) (some 0) (some 1)))))
theorem e_X11_isGone {i : Nat} : f_X11_isGone (zKn i) 76 = g_X11_isGone (zKn i) := by
  funext p1 p2 p3 M0
  simp only [f_X11_isGone, g_X11_isGone, Int.cast_ofNat_Int, zq_76_55, zq_76_57, e_X11_heightOf]
def g_X11_gone (k : zK) (p1 : Int) (p2 : Int) (p3 : Int) (p4 : Int) (M0 : zM) : Option (zM × Int) :=
  zb1 (f_X11_isCell k p1 M0) (fun v1 => zbr v1 0 (v1 = 0) (some (M0, (-2))) (zb1 (f_X11_isWave k p2 p3 p4 M0) (fun v3 => zbr v3 0 (¬ v3 = 0) (zb1 (g_X11_finds k p2 M0) (fun M5 => zgd (0 ≤ p1 ∧ p1 < 256) (zbr (M5 118 p1.toNat) 0 (¬ M5 118 p1.toNat = 0) (zb1 (g_X11_isGone k p1 p3 p4 M5) (fun v6 => zbr v6 0 (v6 = 0) (some (M5, 0)) (some (M5, 1)))) (some (M5, (-1)))))) (some (M0, (-2))))))
theorem e_X11_gone {i : Nat} : f_X11_gone (zKn i) 76 = g_X11_gone (zKn i) := by
  funext p1 p2 p3 p4 M0
  simp only [f_X11_gone, g_X11_gone, Int.cast_ofNat_Int, zq_76_55, e_X11_finds, e_X11_isGone]
def gb_X11_height_50 (k : zK) (l2 : Int) (l3 : Int) (l4 : Int) (l5 : Int) (l6 : Int) (l7 : Int) (M0 : zM) (y8 : Int) (y9 : Int) : Option ((Int × Int) ⊕ (Int)) :=
  zbr y9 256 (256 ≤ y9) (some (.inr y8)) (zbr y8 0 (y8 = 0) (some (.inr y8)) (zgd (0 ≤ y9 ∧ y9 < 1024) (zsp1 (zbr (M0 85 y9.toNat) 0 (M0 85 y9.toNat < 0) (some (.inl y9)) (zgd (0 ≤ y9 ∧ y9 < 1024) (zbr (M0 85 y9.toNat) 1 (¬ M0 85 y9.toNat = 1) (zb1 (g_X11_isGone k y9 l7 l2 M0) (fun v6 => zbr v6 0 (¬ v6 = 0) (zlt (y9 + 1) (fun x8 => some (.inr (.inl (0, x8))))) (some (.inl y9)))) (zgd (0 ≤ y9 ∧ y9 < 256) (zbr (M0 118 y9.toNat) 0 (M0 118 y9.toNat = 0) (some (.inl y9)) (zb1 (g_X11_isGone k y9 l7 l2 M0) (fun v9 => zbr v9 0 (v9 = 0) (zlt (y9 + 1) (fun x11 => some (.inr (.inl (0, x11))))) (some (.inl y9))))))))) (fun r => some r) (fun x12 => zlt (x12 + 1) (fun x13 => some (.inl (1, x13)))))))
theorem eb_X11_height_50 {i : Nat} : fb_X11_height_50 (zKn i) 76 = gb_X11_height_50 (zKn i) := by
  funext l2 l3 l4 l5 l6 l7 M0 y8 y9
  simp only [fb_X11_height_50, gb_X11_height_50, Int.cast_ofNat_Int, zq_76_8, zq_76_55, e_X11_isGone]
def gb_X11_height_37 (k : zK) (l2 : Int) (l3 : Int) (M0 : zM) (y4 : Int) (y5 : Int) (y6 : Int) (y7 : Int) : Option ((Int × Int × Int × Int) ⊕ (Int × Int × Int)) :=
  zbr y7 99 (99 < y7) (some (.inr (y4, y5, y6))) (zb1 (zw2 (gb_X11_height_50 k l2 l3 y4 y5 y6 y7 M0) zfu 1 0) (fun x14 => zbr x14 0 (¬ x14 = 0) (zb1 (zbr y4 0 (0 ≤ y4) (some (y4)) (some (y7))) (fun x15 => zlt (y6 + 1) (fun x16 => zlt (y7 + 1) (fun x17 => some (.inl (x15, y7, x16, x17)))))) (zlt (y7 + 1) (fun x18 => some (.inl (y4, y5, y6, x18))))))
theorem eb_X11_height_37 {i : Nat} : fb_X11_height_37 (zKn i) 76 = gb_X11_height_37 (zKn i) := by
  funext l2 l3 M0 y4 y5 y6 y7
  simp only [fb_X11_height_37, gb_X11_height_37, Int.cast_ofNat_Int, eb_X11_height_50]
def g_X11_height (k : zK) (p1 : Int) (p2 : Int) (p3 : Int) (M0 : zM) : Option (zM × Int) :=
  zb1 (f_X11_isWave k p1 1 p2 M0) (fun v1 => zbr v1 0 (v1 = 0) (some (M0, (-1))) (zb1 (f_X11_within k p3 0 2 M0) (fun v3 => zbr v3 0 (¬ v3 = 0) (zb1 (g_X11_finds k p1 M0) (fun M5 => zb3 (zw4 (gb_X11_height_37 k p2 p3 M5) zfu (-1) (-1) 0 1) (fun x19 x20 x21 => zbr p3 0 (¬ p3 = 0) (zbr p3 1 (¬ p3 = 1) (some (M5, x21)) (some (M5, x20))) (some (M5, x19))))) (some (M0, (-1))))))
theorem e_X11_height {i : Nat} : f_X11_height (zKn i) 76 = g_X11_height (zKn i) := by
  funext p1 p2 p3 M0
  simp only [f_X11_height, g_X11_height, Int.cast_ofNat_Int, e_X11_finds, eb_X11_height_37]
def gb_X11_held_40 (k : zK) (l2 : Int) (l3 : Int) (M0 : zM) (y4 : Int) (y5 : Int) : Option ((Int × Int) ⊕ (Int)) :=
  zgd (0 ≤ (0 : Int) ∧ (0 : Int) < 4) (zbr y5 (M0 79 (Int.toNat 0)) (M0 79 (Int.toNat 0) ≤ y5) (some (.inr y4)) (zgd (0 ≤ y5 ∧ y5 < 240) (zb1 (g_X11_rankOf k (M0 87 y5.toNat) M0) (fun v8 => zbr v8 l2 (l2 ≤ v8) (zlt (y4 + 0) (fun x10 => zlt (y5 + 1) (fun x11 => some (.inl (x10, x11))))) (zlt (y4 + 1) (fun x12 => zlt (y5 + 1) (fun x13 => some (.inl (x12, x13)))))))))
theorem eb_X11_held_40 {i : Nat} : fb_X11_held_40 (zKn i) 76 = gb_X11_held_40 (zKn i) := by
  funext l2 l3 M0 y4 y5
  simp only [fb_X11_held_40, gb_X11_held_40, Int.cast_ofNat_Int, zq_76_2, zq_76_10, e_X11_rankOf]
def g_X11_held (k : zK) (p1 : Int) (p2 : Int) (p3 : Int) (M0 : zM) : Option (zM × Int) :=
  zb1 (f_X11_isAge k p1 M0) (fun v1 => zbr v1 0 (v1 = 0) (some (M0, (-1))) (zb1 (f_X11_within k p2 1 256 M0) (fun v3 => zbr v3 0 (v3 = 0) (some (M0, (-1))) (zb1 (f_X11_within k p3 0 1 M0) (fun v5 => zbr v5 0 (¬ v5 = 0) (zb1 (g_X11_findLives k p1 M0) (fun M7 => zb1 (zw2 (gb_X11_held_40 k p2 p3 M7) zfu 0 0) (fun x14 => zbr p3 0 (¬ p3 = 0) (zgd (0 ≤ (0 : Int) ∧ (0 : Int) < 4) (some (M7, M7 79 (Int.toNat 0)))) (some (M7, x14))))) (some (M0, (-1))))))))
theorem e_X11_held {i : Nat} : f_X11_held (zKn i) 76 = g_X11_held (zKn i) := by
  funext p1 p2 p3 M0
  simp only [f_X11_held, g_X11_held, Int.cast_ofNat_Int, zq_76_2, e_X11_findLives, eb_X11_held_40]
def g_X11_howHere (k : zK) (M0 : zM) : Option (zM × Int) :=
  zb1 (g_X11_is k 91256359 M0) (fun v1 => zb1 (zbr v1 0 (v1 = 0) (zb1 (g_X11_is k 1902829 M0) (fun v3 => zbr v3 0 (v3 = 0) (zb1 (g_X11_is k 2970796153 M0) (fun v5 => zbr v5 0 (v5 = 0) (some (-1)) (some (2)))) (some (1)))) (some (0))) (fun x7 => zbr x7 0 (0 ≤ x7) (zb1 (g_X11_next k M0) (fun M8 => some (M8, x7))) (zb1 (g_X11_errs k M0) (fun M9 => some (M9, x7)))))
theorem e_X11_howHere {i : Nat} : f_X11_howHere (zKn i) 76 = g_X11_howHere (zKn i) := by
  funext M0
  simp only [f_X11_howHere, g_X11_howHere, Int.cast_ofNat_Int, e_X11_errs, e_X11_is, e_X11_next]
def g_X11_image (k : zK) (M0 : zM) : Option (zM × Int) :=
  zbr (M0 76 20) 3 (¬ M0 76 20 = 3) (zlt (zst M0 76 20 ((M0 76 20) + 1)) (fun M1 => zb1 (g_X11_copies k 0 (M1 76 20) M1) (fun M2 => some (M2, (M2 76 20) - 1)))) (zbd (g_X11_refuses k 1 M0) (fun M4 v3 => some (M4, v3)))
theorem e_X11_image {i : Nat} : f_X11_image (zKn i) 76 = g_X11_image (zKn i) := by
  funext M0
  simp only [f_X11_image, g_X11_image, Int.cast_ofNat_Int, e_X11_copies, e_X11_refuses]
def g_X11_isNot (k : zK) (M0 : zM) : Option (zM × Int) :=
  zgd (0 ≤ (0 : Int) ∧ (0 : Int) < 3) (zgd (0 ≤ (0 : Int) ∧ (0 : Int) < 3) (zlt (zst M0 77 (Int.toNat 0) ((M0 77 (Int.toNat 0)) + 1)) (fun M1 => some (M1, 0))))
theorem e_X11_isNot {i : Nat} : f_X11_isNot (zKn i) 76 = g_X11_isNot (zKn i) := by
  funext M0
  simp only [f_X11_isNot, g_X11_isNot, Int.cast_ofNat_Int, zq_76_0]
def g_X11_numeral (k : zK) (p1 : Int) (p2 : Int) (M0 : zM) : Option (zM × Int) :=
  zlt (M0 76 40) (fun x1 => zbr (M0 76 42) 0 (M0 76 42 = 0) (zsp1 (zbr (M0 76 39) 2 (¬ M0 76 39 = 2) (some (.inl M0)) (zbr x1 p1 (x1 < p1) (some (.inl M0)) (zbr x1 p2 (x1 ≤ p2) (zb1 (g_X11_next k M0) (fun M2 => some (.inr (M2, x1)))) (some (.inl M0))))) (fun r => some r) (fun M3 => zb1 (g_X11_errs k M3) (fun M4 => some (M4, 0)))) (some (M0, 0)))
theorem e_X11_numeral {i : Nat} : f_X11_numeral (zKn i) 76 = g_X11_numeral (zKn i) := by
  funext p1 p2 M0
  simp only [f_X11_numeral, g_X11_numeral, Int.cast_ofNat_Int, e_X11_errs, e_X11_next]
def g_X11_wordHere (k : zK) (M0 : zM) : Option Int :=
  zbr (M0 76 42) 0 (¬ M0 76 42 = 0) (some (-1)) (zbr (M0 76 39) 1 (M0 76 39 = 1) (zbl (M0 76 41) 24 (¬ M0 76 41 = 24) (zbl (M0 76 41) 25 (¬ M0 76 41 = 25) (zbl (M0 76 41) 923 (¬ M0 76 41 = 923) (zbl (M0 76 41) 117630947 (¬ M0 76 41 = 117630947) (zbl (M0 76 41) 9759276 (¬ M0 76 41 = 9759276) (zbl (M0 76 41) 1890830 (¬ M0 76 41 = 1890830) (zbl (M0 76 41) 459652 (¬ M0 76 41 = 459652) (some (-1)) (some 6)) (some 5)) (some 4)) (some 3)) (some 2)) (some 1)) (some 0)) (some (-1)))
theorem e_X11_wordHere {i : Nat} : f_X11_wordHere (zKn i) 76 = g_X11_wordHere (zKn i) := by
  funext M0
  simp only [f_X11_wordHere, g_X11_wordHere, Int.cast_ofNat_Int]
def g_X11_readTest (k : zK) (M0 : zM) : Option zM :=
  zb1 (g_X11_wordHere k M0) (fun v1 => zbr v1 0 (0 ≤ v1) (zb1 (g_X11_next k M0) (fun M3 => zlt (M3 76 39) (fun x4 => zsp1 (zbr x4 60 (x4 = 60) (some (.inl M3)) (zbr x4 62 (x4 = 62) (some (.inl M3)) (zbr x4 61 (x4 = 61) (some (.inl M3)) (zb1 (g_X11_errs k M3) (fun M5 => some (.inr M5)))))) (fun r => some r) (fun M6 => zb1 (g_X11_next k M6) (fun M7 => zbd (g_X11_numeral k 0 9999 M7) (fun M9 v8 => zb1 (g_X11_step k 0 v1 x4 v8 M9) (fun M10 => some M10))))))) (zb1 (g_X11_errs k M0) (fun M11 => some M11)))
theorem e_X11_readTest {i : Nat} : f_X11_readTest (zKn i) 76 = g_X11_readTest (zKn i) := by
  funext M0
  simp only [f_X11_readTest, g_X11_readTest, Int.cast_ofNat_Int, e_X11_errs, e_X11_next, e_X11_numeral, e_X11_step, e_X11_wordHere]
def gb_X11_readCondition_14 (k : zK) (y1 : Int) (M0 : zM) : Option ((Int × zM) ⊕ ((zM) ⊕ zM)) :=
  zbr y1 0 (y1 = 0) (some (.inr (.inr M0))) (zbr (M0 76 42) 0 (¬ M0 76 42 = 0) (some (.inr (.inr M0))) (zb1 (g_X11_is k 10631 M0) (fun v3 => zsp2 (zbr v3 0 (¬ v3 = 0) (some (.inl (y1, M0))) (zbr (M0 76 39) 40 (¬ M0 76 39 = 40) (zb1 (g_X11_readTest k M0) (fun M5 => zbr (M5 76 42) 0 (¬ M5 76 42 = 0) (some (.inr (.inl (0, M5)))) (zbd (g_X11_closes k M5) (fun M7 v6 => zbr v6 0 (v6 = 0) (some (.inr (.inl (0, M7)))) (some (.inr (.inl (1, M7)))))))) (some (.inl (y1, M0))))) (fun r => some r) (fun x8 M9 => zbr (M9 76 45) 9 (¬ M9 76 45 = 9) (zb1 (zbr v3 0 (v3 = 0) (some (2)) (some (1))) (fun x10 => zgd (0 ≤ M9 76 45 ∧ M9 76 45 < 12) (zlt (zst M9 109 (M9 76 45).toNat (x10)) (fun M11 => zlt (zst M11 76 45 ((M11 76 45) + 1)) (fun M12 => zgd (0 ≤ M12 76 45 ∧ M12 76 45 < 12) (zlt (zst M12 110 (M12 76 45).toNat (0)) (fun M13 => zb1 (g_X11_next k M13) (fun M14 => some (.inl (x8, M14)))))))))) (some (.inr (.inl M9)))))))
theorem eb_X11_readCondition_14 {i : Nat} : fb_X11_readCondition_14 (zKn i) 76 = gb_X11_readCondition_14 (zKn i) := by
  funext y1 M0
  simp only [fb_X11_readCondition_14, gb_X11_readCondition_14, Int.cast_ofNat_Int, zq_76_43, zq_76_44, e_X11_closes, e_X11_is, e_X11_next, e_X11_readTest]
def g_X11_readCondition (k : zK) (M0 : zM) : Option zM :=
  zlt (zst M0 76 45 0) (fun M1 => zgd (0 ≤ (0 : Int) ∧ (0 : Int) < 12) (zlt (zst M1 110 (Int.toNat 0) (0)) (fun M2 => zsp1 (zw2 (gb_X11_readCondition_14 k) zfu 1 M2) (fun r => some (r)) (fun M15 => zb1 (g_X11_errs k M15) (fun M16 => some M16)))))
theorem e_X11_readCondition {i : Nat} : f_X11_readCondition (zKn i) 76 = g_X11_readCondition (zKn i) := by
  funext M0
  simp only [f_X11_readCondition, g_X11_readCondition, Int.cast_ofNat_Int, zq_76_44, e_X11_errs, eb_X11_readCondition_14]
def g_X11_readSea (k : zK) (p1 : Int) (M0 : zM) : Option zM :=
  zbd (g_X11_numeral k 0 99 M0) (fun M2 v1 => zgd (0 ≤ p1 ∧ p1 < 80) (zlt (zst M2 99 p1.toNat (v1)) (fun M3 => zbd (g_X11_numeral k 0 99 M3) (fun M5 v4 => zgd (0 ≤ p1 ∧ p1 < 80) (zlt (zst M5 100 p1.toNat (v4)) (fun M6 => zgd (0 ≤ p1 ∧ p1 < 80) (zgd (0 ≤ p1 ∧ p1 < 80) (zlt (zst M6 101 p1.toNat (M6 100 p1.toNat)) (fun M7 => zb1 (g_X11_is k 555 M7) (fun v8 => zbr v8 0 (¬ v8 = 0) (zb1 (g_X11_next k M7) (fun M10 => zgd (0 ≤ p1 ∧ p1 < 80) (zbd (g_X11_numeral k (M10 100 p1.toNat) 99 M10) (fun M12 v11 => zgd (0 ≤ p1 ∧ p1 < 80) (zlt (zst M12 101 p1.toNat (v11)) (fun M13 => some M13)))))) (some M7)))))))))))
theorem e_X11_readSea {i : Nat} : f_X11_readSea (zKn i) 76 = g_X11_readSea (zKn i) := by
  funext p1 M0
  simp only [f_X11_readSea, g_X11_readSea, Int.cast_ofNat_Int, zq_76_23, zq_76_24, zq_76_25, e_X11_is, e_X11_next, e_X11_numeral]
def g_X11_ruleHere (k : zK) (M0 : zM) : Option Int :=
  zbr (M0 76 42) 0 (¬ M0 76 42 = 0) (some (-1)) (zbr (M0 76 39) 1 (M0 76 39 = 1) (zbl (M0 76 41) 13987 (¬ M0 76 41 = 13987) (zbl (M0 76 41) 380927 (¬ M0 76 41 = 380927) (zbl (M0 76 41) 243356 (¬ M0 76 41 = 243356) (zbl (M0 76 41) 125180 (¬ M0 76 41 = 125180) (zbl (M0 76 41) 220309 (¬ M0 76 41 = 220309) (zbl (M0 76 41) 1627639 (¬ M0 76 41 = 1627639) (zbl (M0 76 41) 1628675 (¬ M0 76 41 = 1628675) (some (-1)) (some 6)) (some 5)) (some 4)) (some 3)) (some 2)) (some 1)) (some 0)) (some (-1)))
theorem e_X11_ruleHere {i : Nat} : f_X11_ruleHere (zKn i) 76 = g_X11_ruleHere (zKn i) := by
  funext M0
  simp only [f_X11_ruleHere, g_X11_ruleHere, Int.cast_ofNat_Int]
def g_X11_readRule (k : zK) (M0 : zM) : Option zM :=
  zgd (0 ≤ (1 : Int) ∧ (1 : Int) < 2) (zlt (40 + (M0 97 (Int.toNat 1))) (fun x1 => zb1 (g_X11_ruleHere k M0) (fun v2 => zsp1 (zbr v2 0 (v2 < 0) (some (.inl M0)) (zgd (0 ≤ (1 : Int) ∧ (1 : Int) < 2) (zbr (M0 97 (Int.toNat 1)) 40 (¬ M0 97 (Int.toNat 1) = 40) (zb1 (g_X11_next k M0) (fun M4 => zgd (0 ≤ x1 ∧ x1 < 80) (zlt (zst M4 98 x1.toNat (v2)) (fun M5 => zgd (0 ≤ x1 ∧ x1 < 80) (zlt (zst M5 102 x1.toNat (M5 76 28)) (fun M6 => zb1 (zbr v2 0 (¬ v2 = 0) (zbr v2 5 (¬ v2 = 5) (zb1 (zbr v2 4 (¬ v2 = 4) (zbr v2 6 (¬ v2 = 6) (some (99)) (some (10))) (some (100))) (fun x7 => zbd (g_X11_numeral k 0 x7 M6) (fun M9 v8 => zgd (0 ≤ x1 ∧ x1 < 80) (zlt (zst M9 99 x1.toNat (v8)) (fun M10 => zbr v2 6 (v2 = 6) (some (M10)) (zb1 (g_X11_is k 249 M10) (fun v11 => zbr v11 0 (v11 = 0) (some (M10)) (zb1 (g_X11_next k M10) (fun M13 => zb1 (g_X11_readCondition k M13) (fun M14 => some (M14))))))))))) (zbd (g_X11_howHere k M6) (fun M16 v15 => zgd (0 ≤ x1 ∧ x1 < 80) (zlt (zst M16 100 x1.toNat (v15)) (fun M17 => zbd (g_X11_numeral k 0 100 M17) (fun M19 v18 => zgd (0 ≤ x1 ∧ x1 < 80) (zlt (zst M19 99 x1.toNat (v18)) (fun M20 => some (M20))))))))) (zb1 (g_X11_readSea k x1 M6) (fun M21 => some (M21)))) (fun M22 => zgd (0 ≤ x1 ∧ x1 < 80) (zlt (zst M22 103 x1.toNat (M22 76 28)) (fun M23 => zb1 (zbr (M23 76 42) 0 (¬ M23 76 42 = 0) (some (M23)) (zbr (M23 76 39) 59 (M23 76 39 = 59) (some (M23)) (zb1 (g_X11_errs k M23) (fun M24 => some (M24))))) (fun M25 => zbr (M25 76 42) 0 (M25 76 42 = 0) (zb1 (g_X11_next k M25) (fun M26 => zgd (0 ≤ (1 : Int) ∧ (1 : Int) < 2) (zgd (0 ≤ (1 : Int) ∧ (1 : Int) < 2) (zlt (zst M26 97 (Int.toNat 1) ((M26 97 (Int.toNat 1)) + 1)) (fun M27 => some (.inr M27)))))) (some (.inr M25)))))))))))) (some (.inl M0))))) (fun r => some r) (fun M28 => zb1 (g_X11_errs k M28) (fun M29 => some M29)))))
theorem e_X11_readRule {i : Nat} : f_X11_readRule (zKn i) 76 = g_X11_readRule (zKn i) := by
  funext M0
  simp only [f_X11_readRule, g_X11_readRule, Int.cast_ofNat_Int, zq_76_21, zq_76_22, zq_76_23, zq_76_24, zq_76_26, zq_76_27, e_X11_errs, e_X11_howHere, e_X11_is, e_X11_next, e_X11_numeral, e_X11_readCondition, e_X11_readSea, e_X11_ruleHere]
def gb_X11_law_68 (k : zK) (M0 : zM) : Option ((zM) ⊕ (zM)) :=
  zbr (M0 76 39) 0 (M0 76 39 = 0) (some (.inr M0)) (zbr (M0 76 42) 0 (¬ M0 76 42 = 0) (some (.inr M0)) (zb1 (g_X11_readRule k M0) (fun M9 => some (.inl (M9)))))
theorem eb_X11_law_68 {i : Nat} : fb_X11_law_68 (zKn i) 76 = gb_X11_law_68 (zKn i) := by
  funext M0
  simp only [fb_X11_law_68, gb_X11_law_68, Int.cast_ofNat_Int, e_X11_readRule]
def gb_X11_law_116 (k : zK) (y2 : Int) (M0 : zM) : Option ((Int × zM) ⊕ (zM)) :=
  zbr y2 40 (40 ≤ y2) (some (.inr M0)) (zgd (0 ≤ 40 + y2 ∧ 40 + y2 < 80) (zgd (0 ≤ y2 ∧ y2 < 80) (zlt (zst M0 98 y2.toNat (M0 98 (40 + y2).toNat)) (fun M12 => zgd (0 ≤ 40 + y2 ∧ 40 + y2 < 80) (zgd (0 ≤ y2 ∧ y2 < 80) (zlt (zst M12 99 y2.toNat (M12 99 (40 + y2).toNat)) (fun M13 => zgd (0 ≤ 40 + y2 ∧ 40 + y2 < 80) (zgd (0 ≤ y2 ∧ y2 < 80) (zlt (zst M13 100 y2.toNat (M13 100 (40 + y2).toNat)) (fun M14 => zgd (0 ≤ 40 + y2 ∧ 40 + y2 < 80) (zgd (0 ≤ y2 ∧ y2 < 80) (zlt (zst M14 101 y2.toNat (M14 101 (40 + y2).toNat)) (fun M15 => zgd (0 ≤ 40 + y2 ∧ 40 + y2 < 80) (zgd (0 ≤ y2 ∧ y2 < 80) (zlt (zst M15 102 y2.toNat ((M15 102 (40 + y2).toNat) - 1000)) (fun M16 => zgd (0 ≤ 40 + y2 ∧ 40 + y2 < 80) (zgd (0 ≤ y2 ∧ y2 < 80) (zlt (zst M16 103 y2.toNat ((M16 103 (40 + y2).toNat) - 1000)) (fun M17 => zlt (y2 + 1) (fun x18 => some (.inl (x18, M17))))))))))))))))))))))
theorem eb_X11_law_116 {i : Nat} : fb_X11_law_116 (zKn i) 76 = gb_X11_law_116 (zKn i) := by
  funext y2 M0
  simp only [fb_X11_law_116, gb_X11_law_116, Int.cast_ofNat_Int, zq_76_22, zq_76_23, zq_76_24, zq_76_25, zq_76_26, zq_76_27]
def gb_X11_law_228 (k : zK) (y2 : Int) (M0 : zM) : Option ((Int × zM) ⊕ (zM)) :=
  zbr y2 1000 (1000 ≤ y2) (some (.inr M0)) (zgd (0 ≤ 1000 + y2 ∧ 1000 + y2 < 2000) (zgd (0 ≤ y2 ∧ y2 < 2000) (zlt (zst M0 104 y2.toNat (M0 104 (1000 + y2).toNat)) (fun M20 => zgd (0 ≤ 1000 + y2 ∧ 1000 + y2 < 2000) (zgd (0 ≤ y2 ∧ y2 < 2000) (zlt (zst M20 105 y2.toNat (M20 105 (1000 + y2).toNat)) (fun M21 => zgd (0 ≤ 1000 + y2 ∧ 1000 + y2 < 2000) (zgd (0 ≤ y2 ∧ y2 < 2000) (zlt (zst M21 106 y2.toNat (M21 106 (1000 + y2).toNat)) (fun M22 => zgd (0 ≤ 1000 + y2 ∧ 1000 + y2 < 2000) (zgd (0 ≤ y2 ∧ y2 < 2000) (zlt (zst M22 107 y2.toNat (M22 107 (1000 + y2).toNat)) (fun M23 => zlt (y2 + 1) (fun x24 => some (.inl (x24, M23))))))))))))))))
theorem eb_X11_law_228 {i : Nat} : fb_X11_law_228 (zKn i) 76 = gb_X11_law_228 (zKn i) := by
  funext y2 M0
  simp only [fb_X11_law_228, gb_X11_law_228, Int.cast_ofNat_Int, zq_76_29, zq_76_30, zq_76_31, zq_76_32]
def g_X11_law (k : zK) (p1 : Int) (M0 : zM) : Option (zM × Int) :=
  zsp1 (zbr p1 0 (p1 < 0) (some (.inl M0)) (zbr p1 (M0 76 34) (p1 ≤ M0 76 34) (zlt (zst M0 76 36 p1) (fun M1 => zlt (zst M1 76 34 0) (fun M2 => zlt (zst M2 76 37 0) (fun M3 => zlt (zst M3 76 35 (-1)) (fun M4 => zgd ((0 : Int) = 0 ∨ (0 : Int) = 1) (zlt (zst M4 76 42 0) (fun M5 => zlt (zst M5 76 28 1000) (fun M6 => zgd (0 ≤ (1 : Int) ∧ (1 : Int) < 2) (zlt (zst M6 97 (Int.toNat 1) (0)) (fun M7 => zb1 (g_X11_next k M7) (fun M8 => zb1 (zw1 (gb_X11_law_68 k) zfu M8) (fun M10 => zbr (M10 76 42) 0 (M10 76 42 = 0) (zgd (0 ≤ (1 : Int) ∧ (1 : Int) < 2) (zgd (0 ≤ (0 : Int) ∧ (0 : Int) < 2) (zlt (zst M10 97 (Int.toNat 0) (M10 97 (Int.toNat 1))) (fun M11 => zb1 (zw2 (gb_X11_law_116 k) zfu 0 M11) (fun M19 => zb1 (zw2 (gb_X11_law_228 k) zfu 0 M19) (fun M25 => zgd (0 ≤ (0 : Int) ∧ (0 : Int) < 2) (some (.inr (M25, M25 97 (Int.toNat 0)))))))))) (zbd (g_X11_refuses k 2 M10) (fun M27 v26 => some (.inr (M27, v26)))))))))))))))) (some (.inl M0)))) (fun r => some r) (fun M28 => zgd (0 ≤ (0 : Int) ∧ (0 : Int) < 3) (zgd (0 ≤ (0 : Int) ∧ (0 : Int) < 3) (zlt (zst M28 77 (Int.toNat 0) ((M28 77 (Int.toNat 0)) + 1)) (fun M29 => some (M29, (-2))))))
theorem e_X11_law {i : Nat} : f_X11_law (zKn i) 76 = g_X11_law (zKn i) := by
  funext p1 M0
  simp only [f_X11_law, g_X11_law, Int.cast_ofNat_Int, zq_76_0, zq_76_21, e_X11_next, e_X11_refuses, eb_X11_law_116, eb_X11_law_228, eb_X11_law_68]
def gb_X11_leanOf_5 (k : zK) (l1 : Int) (l2 : Int) (y3 : Int) (y4 : Int) (M0 : zM) : Option ((Int × Int × zM) ⊕ (Int × zM)) :=
  zbr y4 256 (256 ≤ y4) (some (.inr (y3, M0))) (zsp1 (zbr l1 0 (l1 < 0) (some (.inl y4)) (zb1 (f_X11_quarterOf k y4 M0) (fun v1 => zbr v1 l1 (¬ v1 = l1) (zlt (y4 + 1) (fun x3 => some (.inr (.inl (y3, x3, M0))))) (some (.inl y4))))) (fun r => some r) (fun x4 => zbd (g_X11_by k 3 x4 l2 M0) (fun M6 v5 => zlt (y3 + v5) (fun x7 => zlt (x4 + 1) (fun x8 => some (.inl (x7, x8, M6)))))))
theorem eb_X11_leanOf_5 {i : Nat} : fb_X11_leanOf_5 (zKn i) 76 = gb_X11_leanOf_5 (zKn i) := by
  funext l1 l2 y3 y4 M0
  simp only [fb_X11_leanOf_5, gb_X11_leanOf_5, Int.cast_ofNat_Int, e_X11_by]
def g_X11_leanOf (k : zK) (p1 : Int) (p2 : Int) (M0 : zM) : Option (zM × Int) :=
  zb2 (zw3 (gb_X11_leanOf_5 k p1 p2) zfu 0 0 M0) (fun x9 M10 => some (M10, x9))
theorem e_X11_leanOf {i : Nat} : f_X11_leanOf (zKn i) 76 = g_X11_leanOf (zKn i) := by
  funext p1 p2 M0
  simp only [f_X11_leanOf, g_X11_leanOf, Int.cast_ofNat_Int, eb_X11_leanOf_5]
def g_X11_lean (k : zK) (p1 : Int) (p2 : Int) (M0 : zM) : Option (zM × Int) :=
  zb1 (f_X11_within k p1 0 3 M0) (fun v1 => zbr v1 0 (v1 = 0) (some (M0, (-1))) (zb1 (f_X11_isAge k p2 M0) (fun v3 => zbr v3 0 (¬ v3 = 0) (zb1 (g_X11_finds k p2 M0) (fun M5 => zbd (g_X11_leanOf k p1 p2 M5) (fun M7 v6 => some (M7, v6)))) (some (M0, (-1))))))
theorem e_X11_lean {i : Nat} : f_X11_lean (zKn i) 76 = g_X11_lean (zKn i) := by
  funext p1 p2 M0
  simp only [f_X11_lean, g_X11_lean, Int.cast_ofNat_Int, e_X11_finds, e_X11_leanOf]
def g_X11_learnt (k : zK) (p1 : Int) (p2 : Int) (M0 : zM) : Option (zM × Int) :=
  zb1 (f_X11_within k p1 0 15 M0) (fun v1 => zbr v1 0 (v1 = 0) (some (M0, (-1))) (zb1 (f_X11_within k p2 0 1 M0) (fun v3 => zbr v3 0 (¬ v3 = 0) (zb1 (g_X11_learn k p1 (-1) M0) (fun M5 => zbr p2 0 (¬ p2 = 0) (some (M5, M5 76 62)) (some (M5, M5 76 61)))) (some (M0, (-1))))))
theorem e_X11_learnt {i : Nat} : f_X11_learnt (zKn i) 76 = g_X11_learnt (zKn i) := by
  funext p1 p2 M0
  simp only [f_X11_learnt, g_X11_learnt, Int.cast_ofNat_Int, e_X11_learn]
def gb_X11_leaves_7 (k : zK) (l1 : Int) (M0 : zM) (y2 : Int) (y4 : Int) : Option ((Int × Int) ⊕ (Int)) :=
  zgd (0 ≤ (0 : Int) ∧ (0 : Int) < 4) (zbr y4 (M0 80 (Int.toNat 0)) (M0 80 (Int.toNat 0) ≤ y4) (some (.inr y2)) (zgd (0 ≤ y4 ∧ y4 < 10) (zgd (zr (M0 123 y4.toNat)) (zgd (0 ≤ y4 ∧ y4 < 10) (zgd (zr (M0 123 y4.toNat)) (zgd (zr l1) (zgd (0 ≤ y4 ∧ y4 < 10) (zb1 (f_X11_power k (10 - l1) (M0 124 y4.toNat) M0) (fun v1 => zgd (0 ≤ y4 ∧ y4 < 10) (zb1 (f_X11_power k 10 (M0 124 y4.toNat) M0) (fun v3 => zgd ((0 ≤ (M0 123 y4.toNat) * v1 ∧ (M0 123 y4.toNat) * v1 ≤ 9223372036854775807) ∧ 0 < v3 ∧ v3 ≤ 9223372036854775807) (zgd (0 ≤ y2 * ((1000000 - (M0 123 y4.toNat)) + (((M0 123 y4.toNat) * v1) / v3)) ∧ y2 * ((1000000 - (M0 123 y4.toNat)) + (((M0 123 y4.toNat) * v1) / v3)) ≤ 9223372036854775807) (zlt ((y2 * ((1000000 - (M0 123 y4.toNat)) + (((M0 123 y4.toNat) * v1) / v3))) / 1000000) (fun x5 => zlt (y4 + 1) (fun x6 => some (.inl (x5, x6)))))))))))))))))
theorem eb_X11_leaves_7 {i : Nat} : fb_X11_leaves_7 (zKn i) 76 = gb_X11_leaves_7 (zKn i) := by
  funext l1 M0 y2 y4
  simp only [fb_X11_leaves_7, gb_X11_leaves_7, Int.cast_ofNat_Int, zq_76_3, zq_76_66, zq_76_67]
def g_X11_leaves (k : zK) (p1 : Int) (M0 : zM) : Option Int :=
  zb1 (zw2 (gb_X11_leaves_7 k p1 M0) zfu 1000000 0) (fun x7 => some x7)
theorem e_X11_leaves {i : Nat} : f_X11_leaves (zKn i) 76 = g_X11_leaves (zKn i) := by
  funext p1 M0
  simp only [f_X11_leaves, g_X11_leaves, Int.cast_ofNat_Int, eb_X11_leaves_7]
def g_X11_left (k : zK) (p1 : Int) (p2 : Int) (p3 : Int) (M0 : zM) : Option (zM × Int) :=
  zb1 (f_X11_isCell k p1 M0) (fun v1 => zbr v1 0 (v1 = 0) (some (M0, (-1))) (zb1 (f_X11_isAge k p2 M0) (fun v3 => zbr v3 0 (v3 = 0) (some (M0, (-1))) (zb1 (f_X11_within k p3 0 1 M0) (fun v5 => zbr v5 0 (¬ v5 = 0) (zb1 (g_X11_finds k p2 M0) (fun M7 => zb1 (g_X11_findLeft k p1 M7) (fun M8 => zb1 (f_X11_lowest k (M8 76 63) (M8 76 64) p3 M8) (fun v9 => some (M8, v9))))) (some (M0, (-1))))))))
theorem e_X11_left {i : Nat} : f_X11_left (zKn i) 76 = g_X11_left (zKn i) := by
  funext p1 p2 p3 M0
  simp only [f_X11_left, g_X11_left, Int.cast_ofNat_Int, e_X11_findLeft, e_X11_finds]
def g_X11_letter (k : zK) (p1 : Int) (p2 : Int) (p3 : Int) (p4 : Int) (M0 : zM) : Option (zM × Int) :=
  zb1 (f_X11_within k p2 0 99 M0) (fun v1 => zsp1 (zbr v1 0 (v1 = 0) (some (.inl M0)) (zb1 (f_X11_areAges k p3 p4 M0) (fun v3 => zbr v3 0 (¬ v3 = 0) (zgd (0 ≤ (0 : Int) ∧ (0 : Int) < 4) (zbr (M0 81 (Int.toNat 0)) 40 (¬ M0 81 (Int.toNat 0) = 40) (zgd (0 ≤ (0 : Int) ∧ (0 : Int) < 4) (zlt (M0 81 (Int.toNat 0)) (fun x5 => zgd ((p1 = 0 ∨ p1 = 1) ∧ 0 ≤ x5 ∧ x5 < 160) (zlt (zst M0 96 x5.toNat (p1)) (fun M6 => zgd (0 ≤ x5 ∧ x5 < 160) (zlt (zst M6 92 x5.toNat (p2)) (fun M7 => zgd (0 ≤ x5 ∧ x5 < 160) (zlt (zst M7 93 x5.toNat (p3)) (fun M8 => zgd (0 ≤ x5 ∧ x5 < 160) (zlt (zst M8 94 x5.toNat (p4)) (fun M9 => zgd (0 ≤ (0 : Int) ∧ (0 : Int) < 4) (zgd (0 ≤ (0 : Int) ∧ (0 : Int) < 4) (zlt (zst M9 81 (Int.toNat 0) ((M9 81 (Int.toNat 0)) + 1)) (fun M10 => zgd (0 ≤ (0 : Int) ∧ (0 : Int) < 4) (some (.inr (M10, M10 81 (Int.toNat 0)))))))))))))))))) (zbd (g_X11_refuses k 1 M0) (fun M12 v11 => some (.inr (M12, v11)))))) (some (.inl M0))))) (fun r => some r) (fun M13 => zbd (g_X11_refuses k 0 M13) (fun M15 v14 => some (M15, v14))))
theorem e_X11_letter {i : Nat} : f_X11_letter (zKn i) 76 = g_X11_letter (zKn i) := by
  funext p1 p2 p3 p4 M0
  simp only [f_X11_letter, g_X11_letter, Int.cast_ofNat_Int, zq_76_4, zq_76_15, zq_76_16, zq_76_17, zq_76_19, e_X11_refuses]
def gb_X11_levels_27 (k : zK) (l1 : Int) (l2 : Int) (M0 : zM) (y3 : Int) (y4 : Int) (y5 : Int) : Option ((Int × Int × Int) ⊕ (Int × Int)) :=
  zgd (0 ≤ (0 : Int) ∧ (0 : Int) < 4) (zbr y5 (M0 81 (Int.toNat 0)) (M0 81 (Int.toNat 0) ≤ y5) (some (.inr (y3, y4))) (zgd (0 ≤ y5 ∧ y5 < 160) (zlt (M0 92 y5.toNat) (fun x5 => zgd (0 ≤ y5 ∧ y5 < 160) (zb1 (zbr (M0 96 y5.toNat) 0 (M0 96 y5.toNat = 0) (some (y4)) (zgd (0 ≤ y5 ∧ y5 < 160) (zbr (M0 93 y5.toNat) l1 (M0 93 y5.toNat < l1) (some (y4)) (zbr (x5 - 1) y4 (y4 ≤ x5 - 1) (some (y4)) (zlt (x5 - 1) (fun x6 => some (x6))))))) (fun x7 => zgd (0 ≤ y5 ∧ y5 < 160) (zbr (M0 96 y5.toNat) 0 (¬ M0 96 y5.toNat = 0) (zlt (y5 + 1) (fun x8 => some (.inl (y3, x7, x8)))) (zgd (0 ≤ y5 ∧ y5 < 160) (zbr (M0 94 y5.toNat) l1 (l1 < M0 94 y5.toNat) (zlt (y5 + 1) (fun x9 => some (.inl (y3, x7, x9)))) (zbr x5 y3 (x5 ≤ y3) (zlt (y5 + 1) (fun x10 => some (.inl (y3, x7, x10)))) (zlt (y5 + 1) (fun x11 => some (.inl (x5, x7, x11))))))))))))))
theorem eb_X11_levels_27 {i : Nat} : fb_X11_levels_27 (zKn i) 76 = gb_X11_levels_27 (zKn i) := by
  funext l1 l2 M0 y3 y4 y5
  simp only [fb_X11_levels_27, gb_X11_levels_27, Int.cast_ofNat_Int, zq_76_4, zq_76_15, zq_76_16, zq_76_17, zq_76_19]
def g_X11_levels (k : zK) (p1 : Int) (p2 : Int) (M0 : zM) : Option Int :=
  zb1 (f_X11_isAge k p1 M0) (fun v1 => zbr v1 0 (v1 = 0) (some (-1)) (zb1 (f_X11_within k p2 0 1 M0) (fun v3 => zbr v3 0 (¬ v3 = 0) (zb2 (zw3 (gb_X11_levels_27 k p1 p2 M0) zfu 0 99 0) (fun x12 x13 => zbr x12 x13 (x12 ≤ x13) (zbr p2 0 (¬ p2 = 0) (some x13) (some x12)) (some (-1)))) (some (-1)))))
theorem e_X11_levels {i : Nat} : f_X11_levels (zKn i) 76 = g_X11_levels (zKn i) := by
  funext p1 p2 M0
  simp only [f_X11_levels, g_X11_levels, Int.cast_ofNat_Int, eb_X11_levels_27]
def g_X11_lived (k : zK) (p1 : Int) (p2 : Int) (p3 : Int) (p4 : Int) (M0 : zM) : Option (zM × Int) :=
  zb1 (f_X11_isCell k p1 M0) (fun v1 => zbr v1 0 (v1 = 0) (some (M0, (-1))) (zb1 (f_X11_areAges k p2 p3 M0) (fun v3 => zbr v3 0 (v3 = 0) (some (M0, (-1))) (zb1 (f_X11_within k p4 0 1 M0) (fun v5 => zbr v5 0 (¬ v5 = 0) (zb1 (g_X11_findLive k p1 p2 p3 M0) (fun M7 => zbl (M7 76 60) 0 (¬ M7 76 60 = 0) (zb1 (f_X11_lowest k (M7 76 59) (M7 76 60) p4 M7) (fun v8 => some (M7, v8))) (some (M7, (-1))))) (some (M0, (-1))))))))
theorem e_X11_lived {i : Nat} : f_X11_lived (zKn i) 76 = g_X11_lived (zKn i) := by
  funext p1 p2 p3 p4 M0
  simp only [f_X11_lived, g_X11_lived, Int.cast_ofNat_Int, e_X11_findLive]
def g_X11_mud (k : zK) (p1 : Int) (p2 : Int) (M0 : zM) : Option (zM × Int) :=
  zb1 (f_X11_isCell k p1 M0) (fun v1 => zbr v1 0 (¬ v1 = 0) (zgd (0 ≤ p1 ∧ p1 < 1024) (zsp1 (zbr (M0 85 p1.toNat) 0 (0 ≤ M0 85 p1.toNat) (some (.inl M0)) (zb1 (g_X11_mudMany k M0) (fun v3 => zbr v3 40 (¬ v3 = 40) (some (.inl M0)) (zbd (g_X11_refuses k 1 M0) (fun M6 v5 => some (.inr (M6, v5))))))) (fun r => some r) (fun M7 => zb1 (zbr p2 0 (p2 = 0) (some (0)) (some (1))) (fun x8 => zgd (0 ≤ p1 ∧ p1 < 1024) (zlt (zst M7 85 p1.toNat (x8)) (fun M9 => zb1 (g_X11_mudMany k M9) (fun v10 => some (M9, v10)))))))) (zbd (g_X11_refuses k 0 M0) (fun M13 v12 => some (M13, v12))))
theorem e_X11_mud {i : Nat} : f_X11_mud (zKn i) 76 = g_X11_mud (zKn i) := by
  funext p1 p2 M0
  simp only [f_X11_mud, g_X11_mud, Int.cast_ofNat_Int, zq_76_8, e_X11_mudMany, e_X11_refuses]
def g_X11_place (k : zK) (p1 : Int) (M0 : zM) : Option (zM × Int) :=
  zb1 (f_X11_isCell k p1 M0) (fun v1 => zsp1 (zbr v1 0 (v1 = 0) (some (.inl M0)) (zb1 (g_X11_isPlace k p1 M0) (fun v3 => zbr v3 0 (v3 = 0) (zgd (0 ≤ (0 : Int) ∧ (0 : Int) < 4) (zbr (M0 80 (Int.toNat 0)) 10 (¬ M0 80 (Int.toNat 0) = 10) (zgd (0 ≤ (0 : Int) ∧ (0 : Int) < 4) (zgd (0 ≤ M0 80 (Int.toNat 0) ∧ M0 80 (Int.toNat 0) < 40) (zlt (zst M0 91 (M0 80 (Int.toNat 0)).toNat (p1)) (fun M5 => zgd (0 ≤ (0 : Int) ∧ (0 : Int) < 4) (zgd (0 ≤ (0 : Int) ∧ (0 : Int) < 4) (zlt (zst M5 80 (Int.toNat 0) ((M5 80 (Int.toNat 0)) + 1)) (fun M6 => zgd (0 ≤ (0 : Int) ∧ (0 : Int) < 4) (some (.inr (M6, (M6 80 (Int.toNat 0)) - 1)))))))))) (zbd (g_X11_refuses k 1 M0) (fun M8 v7 => some (.inr (M8, v7)))))) (some (.inl M0))))) (fun r => some r) (fun M9 => zbd (g_X11_refuses k 0 M9) (fun M11 v10 => some (M11, v10))))
theorem e_X11_place {i : Nat} : f_X11_place (zKn i) 76 = g_X11_place (zKn i) := by
  funext p1 M0
  simp only [f_X11_place, g_X11_place, Int.cast_ofNat_Int, zq_76_3, zq_76_14, e_X11_isPlace, e_X11_refuses]
def gb_X11_rest_35 (k : zK) (l2 : Int) (l3 : Int) (l4 : Int) (y5 : Int) (y6 : Int) (y7 : Int) (M0 : zM) : Option ((Int × Int × Int × zM) ⊕ (Int × Int × zM)) :=
  zbr y7 256 (256 ≤ y7) (some (.inr (y5, y6, M0))) (zgd (0 ≤ y7 ∧ y7 < 256) (zsp4 (zbr (M0 118 y7.toNat) 0 (M0 118 y7.toNat = 0) (some (.inl (y5, y6, y7, M0))) (zb1 (g_X11_isGone k y7 l2 l3 M0) (fun v6 => zbr v6 0 (¬ v6 = 0) (some (.inl (y5, y6, y7, M0))) (zgd (((1 : Int) = 0 ∨ (1 : Int) = 1) ∧ 0 ≤ y7 ∧ y7 < 256) (zlt (zst M0 122 y7.toNat (1)) (fun M8 => zgd (0 ≤ y7 ∧ y7 < 256) (zb1 (zbr (M8 122 y7.toNat) 0 (M8 122 y7.toNat = 0) (some (0)) (some (1))) (fun x9 => zlt (y5 + x9) (fun x10 => zgd (0 ≤ y7 ∧ y7 < 256) (zsp1 (zbr (M8 118 y7.toNat) 0 (M8 118 y7.toNat = 0) (some (.inl y7)) (zgd (0 ≤ y7 ∧ y7 < 256) (zbr (M8 122 y7.toNat) 0 (¬ M8 122 y7.toNat = 0) (some (.inl y7)) (zlt (y6 + 1) (fun x11 => zlt (y7 + 1) (fun x12 => some (.inr (.inr (.inl (x10, x11, x12, M8)))))))))) (fun r => some r) (fun x13 => zlt (y6 + 0) (fun x14 => zlt (x13 + 1) (fun x15 => some (.inr (.inl (x10, x14, x15, M8)))))))))))))))) (fun r => some r) (fun x16 x17 x18 M19 => zgd (((0 : Int) = 0 ∨ (0 : Int) = 1) ∧ 0 ≤ y7 ∧ y7 < 256) (zlt (zst M19 122 y7.toNat (0)) (fun M20 => zgd (0 ≤ x18 ∧ x18 < 256) (zb1 (zbr (M20 122 x18.toNat) 0 (M20 122 x18.toNat = 0) (some (0)) (some (1))) (fun x21 => zlt (x16 + x21) (fun x22 => zgd (0 ≤ x18 ∧ x18 < 256) (zsp1 (zbr (M20 118 x18.toNat) 0 (M20 118 x18.toNat = 0) (some (.inl x18)) (zgd (0 ≤ x18 ∧ x18 < 256) (zbr (M20 122 x18.toNat) 0 (¬ M20 122 x18.toNat = 0) (some (.inl x18)) (zlt (x17 + 1) (fun x23 => zlt (x18 + 1) (fun x24 => some (.inr (.inl (x22, x23, x24, M20))))))))) (fun r => some r) (fun x25 => zlt (x17 + 0) (fun x26 => zlt (x25 + 1) (fun x27 => some (.inl (x22, x26, x27, M20))))))))))))))
theorem eb_X11_rest_35 {i : Nat} : fb_X11_rest_35 (zKn i) 76 = gb_X11_rest_35 (zKn i) := by
  funext l2 l3 l4 y5 y6 y7 M0
  simp only [fb_X11_rest_35, gb_X11_rest_35, Int.cast_ofNat_Int, zq_76_55, zq_76_65, e_X11_isGone]
def gb_X11_rest_161 (k : zK) (y7 : Int) (y8 : Int) (M0 : zM) : Option ((Int × Int × zM) ⊕ (Int × zM)) :=
  zbr y8 256 (256 ≤ y8) (some (.inr (y7, M0))) (zgd (0 ≤ y8 ∧ y8 < 256) (zbr (M0 122 y8.toNat) 0 (M0 122 y8.toNat = 0) (zlt (y8 + 1) (fun x32 => some (.inl (y7, x32, M0)))) (zgd (0 ≤ y8 ∧ y8 < 256) (zbr (M0 119 y8.toNat) 0 (M0 119 y8.toNat = 0) (zbd (g_X11_spread k y8 122 M0) (fun M34 v33 => zbr v33 0 (v33 ≤ 0) (zlt (y7 + 0) (fun x35 => zlt (y8 + 1) (fun x36 => some (.inl (x35, x36, M34))))) (zlt (y7 + 1) (fun x37 => zlt (y8 + 1) (fun x38 => some (.inl (x37, x38, M34))))))) (zlt (y8 + 1) (fun x39 => some (.inl (y7, x39, M0))))))))
theorem eb_X11_rest_161 {i : Nat} : fb_X11_rest_161 (zKn i) 76 = gb_X11_rest_161 (zKn i) := by
  funext y7 y8 M0
  simp only [fb_X11_rest_161, gb_X11_rest_161, Int.cast_ofNat_Int, zq_76_56, zq_76_65, e_X11_spread]
def g_X11_rest (k : zK) (p1 : Int) (p2 : Int) (p3 : Int) (p4 : Int) (M0 : zM) : Option (zM × Int) :=
  zb1 (f_X11_isWave k p1 p2 p3 M0) (fun v1 => zbr v1 0 (v1 = 0) (some (M0, (-1))) (zb1 (f_X11_within k p4 0 2 M0) (fun v3 => zbr v3 0 (¬ v3 = 0) (zb1 (g_X11_finds k p1 M0) (fun M5 => zb3 (zw4 (gb_X11_rest_35 k p2 p3 p4) zfu 0 0 0 M5) (fun x28 x29 M30 => zbr p4 1 (p4 = 1) (zb1 (g_X11_unsees k M30) (fun M31 => zb2 (zw3 (gb_X11_rest_161 k) zfu 0 0 M31) (fun x40 M41 => some (M41, x40)))) (zbr p4 0 (¬ p4 = 0) (some (M30, x29)) (some (M30, x28)))))) (some (M0, (-1))))))
theorem e_X11_rest {i : Nat} : f_X11_rest (zKn i) 76 = g_X11_rest (zKn i) := by
  funext p1 p2 p3 p4 M0
  simp only [f_X11_rest, g_X11_rest, Int.cast_ofNat_Int, e_X11_finds, e_X11_unsees, eb_X11_rest_161, eb_X11_rest_35]
def g_X11_restore (k : zK) (p1 : Int) (M0 : zM) : Option (zM × Int) :=
  zb1 (f_X11_within k p1 0 ((M0 76 20) - 1) M0) (fun v1 => zbr v1 0 (¬ v1 = 0) (zb1 (g_X11_copies k (p1 + 1) 0 M0) (fun M3 => some (M3, 1))) (zbd (g_X11_isNot k M0) (fun M5 v4 => zgd (v4 = 0 ∨ v4 = 1) (some (M5, v4)))))
theorem e_X11_restore {i : Nat} : f_X11_restore (zKn i) 76 = g_X11_restore (zKn i) := by
  funext p1 M0
  simp only [f_X11_restore, g_X11_restore, Int.cast_ofNat_Int, e_X11_copies, e_X11_isNot]
def gb_X11_right_43 (k : zK) (l1 : Int) (l2 : Int) (l3 : Int) (M0 : zM) (y4 : Int) (y6 : Int) (y8 : Int) : Option ((Int × Int × Int) ⊕ (Int × Int)) :=
  zgd (0 ≤ (0 : Int) ∧ (0 : Int) < 4) (zbr y8 (M0 79 (Int.toNat 0)) (M0 79 (Int.toNat 0) ≤ y8) (some (.inr (y4, y6))) (zgd (0 ≤ y8 ∧ y8 < 240) (zbr (M0 88 y8.toNat) 0 (M0 88 y8.toNat = 0) (zlt (y6 + 1) (fun x8 => zgd (0 ≤ y8 ∧ y8 < 240) (zb1 (f_X11_quarterOf k (M0 87 y8.toNat) M0) (fun v9 => zbr v9 l1 (¬ v9 = l1) (zlt (y4 + 0) (fun x11 => zlt (y8 + 1) (fun x12 => some (.inl (x11, x8, x12))))) (zlt (y4 + 1) (fun x13 => zlt (y8 + 1) (fun x14 => some (.inl (x13, x8, x14))))))))) (zlt (y8 + 1) (fun x15 => some (.inl (y4, y6, x15)))))))
theorem eb_X11_right_43 {i : Nat} : fb_X11_right_43 (zKn i) 76 = gb_X11_right_43 (zKn i) := by
  funext l1 l2 l3 M0 y4 y6 y8
  simp only [fb_X11_right_43, gb_X11_right_43, Int.cast_ofNat_Int, zq_76_2, zq_76_10, zq_76_11]
def g_X11_right (k : zK) (p1 : Int) (p2 : Int) (p3 : Int) (M0 : zM) : Option (zM × Int) :=
  zb1 (f_X11_within k p1 0 3 M0) (fun v1 => zbr v1 0 (v1 = 0) (some (M0, (-1))) (zb1 (f_X11_isAge k p2 M0) (fun v3 => zbr v3 0 (v3 = 0) (some (M0, (-1))) (zb1 (f_X11_within k p3 0 1 M0) (fun v5 => zbr v5 0 (¬ v5 = 0) (zb1 (g_X11_finds k p2 M0) (fun M7 => zb2 (zw3 (gb_X11_right_43 k p1 p2 p3 M7) zfu 0 0 0) (fun x16 x17 => zbd (g_X11_leanOf k p1 p2 M7) (fun M19 v18 => zgd (zr v18) (zbl v18 0 (v18 = 0) (some (M19, (-1))) (zbl x17 0 (¬ x17 = 0) (zbd (g_X11_leanOf k (-1) p2 M19) (fun M21 v20 => zgd (zr v20) (zb1 (f_X11_lowest k (x16 * v20) (v18 * x17) p3 M21) (fun v22 => some (M21, v22))))) (some (M19, (-1))))))))) (some (M0, (-1))))))))
theorem e_X11_right {i : Nat} : f_X11_right (zKn i) 76 = g_X11_right (zKn i) := by
  funext p1 p2 p3 M0
  simp only [f_X11_right, g_X11_right, Int.cast_ofNat_Int, e_X11_finds, e_X11_leanOf, eb_X11_right_43]
def gb_X11_say_38 (k : zK) (l1 : Int) (l2 : Int) (M0 : zM) (y3 : Int) (y4 : Int) : Option ((Int × Int) ⊕ (Int)) :=
  zgd (0 ≤ (0 : Int) ∧ (0 : Int) < 4) (zbr y4 (M0 79 (Int.toNat 0)) (M0 79 (Int.toNat 0) ≤ y4) (some (.inr y3)) (zgd (0 ≤ y4 ∧ y4 < 240) (zbr (M0 87 y4.toNat) l1 (¬ M0 87 y4.toNat = l1) (zlt (y4 + 1) (fun x6 => some (.inl (y3, x6)))) (zgd (0 ≤ y4 ∧ y4 < 240) (zgd (0 ≤ y4 ∧ y4 < 240) (zb1 (f_X11_within k l2 (M0 89 y4.toNat) (M0 90 y4.toNat) M0) (fun v7 => zbr v7 0 (¬ v7 = 0) (zgd (0 ≤ y4 ∧ y4 < 240) (zb1 (zbr (M0 88 y4.toNat) 0 (¬ M0 88 y4.toNat = 0) (some (3)) (some (2))) (fun x9 => zbr x9 y3 (x9 ≤ y3) (zlt (y4 + 1) (fun x10 => some (.inl (y3, x10)))) (zlt (y4 + 1) (fun x11 => some (.inl (x9, x11))))))) (zlt (y4 + 1) (fun x12 => some (.inl (y3, x12)))))))))))
theorem eb_X11_say_38 {i : Nat} : fb_X11_say_38 (zKn i) 76 = gb_X11_say_38 (zKn i) := by
  funext l1 l2 M0 y3 y4
  simp only [fb_X11_say_38, gb_X11_say_38, Int.cast_ofNat_Int, zq_76_2, zq_76_10, zq_76_11, zq_76_12, zq_76_13]
def g_X11_say (k : zK) (p1 : Int) (p2 : Int) (M0 : zM) : Option (zM × Int) :=
  zb1 (f_X11_isCell k p1 M0) (fun v1 => zbr v1 0 (v1 = 0) (some (M0, (-2))) (zb1 (f_X11_isAge k p2 M0) (fun v3 => zbr v3 0 (¬ v3 = 0) (zb1 (g_X11_finds k p2 M0) (fun M5 => zgd (0 ≤ p1 ∧ p1 < 256) (zbr (M5 118 p1.toNat) 0 (¬ M5 118 p1.toNat = 0) (zb1 (zw2 (gb_X11_say_38 k p1 p2 M5) zfu 0 0) (fun x13 => zbr x13 0 (x13 ≤ 0) (zb1 (g_X11_findLeft k p1 M5) (fun M14 => zbl (2 * (M14 76 63)) (M14 76 64) (2 * (M14 76 63) < M14 76 64) (some (M14, 0)) (some (M14, 1)))) (some (M5, x13)))) (some (M5, (-1)))))) (some (M0, (-2))))))
theorem e_X11_say {i : Nat} : f_X11_say (zKn i) 76 = g_X11_say (zKn i) := by
  funext p1 p2 M0
  simp only [f_X11_say, g_X11_say, Int.cast_ofNat_Int, zq_76_55, e_X11_findLeft, e_X11_finds, eb_X11_say_38]
def g_X11_sea (k : zK) (p1 : Int) (p2 : Int) (M0 : zM) : Option (zM × Int) :=
  zb1 (f_X11_isAge k p1 M0) (fun v1 => zbr v1 0 (v1 = 0) (some (M0, (-1))) (zb1 (f_X11_within k p2 0 1 M0) (fun v3 => zbr v3 0 (¬ v3 = 0) (zb1 (g_X11_findSea k p1 M0) (fun M5 => zbr p2 0 (¬ p2 = 0) (some (M5, M5 76 49)) (some (M5, M5 76 48)))) (some (M0, (-1))))))
theorem e_X11_sea {i : Nat} : f_X11_sea (zKn i) 76 = g_X11_sea (zKn i) := by
  funext p1 p2 M0
  simp only [f_X11_sea, g_X11_sea, Int.cast_ofNat_Int, e_X11_findSea]
def gb_X11_ship_58 (k : zK) (l1 : Int) (l3 : Int) (y4 : Int) (M0 : zM) : Option ((Int × zM) ⊕ (zM)) :=
  zgd (0 ≤ (0 : Int) ∧ (0 : Int) < 4) (zbr y4 (M0 80 (Int.toNat 0)) (M0 80 (Int.toNat 0) ≤ y4) (some (.inr M0)) (zgd (0 ≤ y4 ∧ y4 < 40) (zb1 (g_X11_findLeft k (M0 91 y4.toNat) M0) (fun M8 => zgd ((0 ≤ (M8 76 63) * 1000000 ∧ (M8 76 63) * 1000000 ≤ 9223372036854775807) ∧ 0 < M8 76 64 ∧ M8 76 64 ≤ 9223372036854775807) (zgd (0 ≤ y4 ∧ y4 < 10) (zlt (zst M8 123 y4.toNat (((M8 76 63) * 1000000) / (M8 76 64))) (fun M9 => zbr y4 0 (¬ y4 = 0) (zgd (0 ≤ y4 ∧ y4 < 10) (zlt (zst M9 124 y4.toNat (0)) (fun M10 => zlt (y4 + 1) (fun x11 => some (.inl (x11, M10)))))) (zgd (0 ≤ y4 ∧ y4 < 10) (zlt (zst M9 124 y4.toNat (l1)) (fun M12 => zlt (y4 + 1) (fun x13 => some (.inl (x13, M12)))))))))))))
theorem eb_X11_ship_58 {i : Nat} : fb_X11_ship_58 (zKn i) 76 = gb_X11_ship_58 (zKn i) := by
  funext l1 l3 y4 M0
  simp only [fb_X11_ship_58, gb_X11_ship_58, Int.cast_ofNat_Int, zq_76_3, zq_76_14, zq_76_66, zq_76_67, e_X11_findLeft]
def gb_X11_ship_169 (k : zK) (l3 : Int) (l4 : Int) (y9 : Int) (M0 : zM) : Option ((Int × zM) ⊕ (zM)) :=
  zgd (0 ≤ (0 : Int) ∧ (0 : Int) < 4) (zbr y9 (M0 80 (Int.toNat 0)) (M0 80 (Int.toNat 0) ≤ y9) (some (.inr M0)) (zgd (0 ≤ y9 ∧ y9 < 10) (zgd (0 ≤ y9 ∧ y9 < 10) (zlt (zst M0 125 y9.toNat (M0 124 y9.toNat)) (fun M22 => zlt (y9 + 1) (fun x23 => some (.inl (x23, M22))))))))
theorem eb_X11_ship_169 {i : Nat} : fb_X11_ship_169 (zKn i) 76 = gb_X11_ship_169 (zKn i) := by
  funext l3 l4 y9 M0
  simp only [fb_X11_ship_169, gb_X11_ship_169, Int.cast_ofNat_Int, zq_76_3, zq_76_67, zq_76_68]
def gb_X11_ship_132 (k : zK) (l3 : Int) (y4 : Int) (y6 : Int) (M0 : zM) : Option ((Int × Int × zM) ⊕ (Int × zM)) :=
  zbr y6 0 (y6 = 0) (some (.inr (y4, M0))) (zb1 (g_X11_catches k M0) (fun v15 => zb1 (g_X11_leaves k v15 M0) (fun v17 => zsp1 (zbl y4 0 (y4 < 0) (some (.inl M0)) (zbl v17 y4 (y4 ≤ v17) (zbd (g_X11_goesOn k M0) (fun M20 v19 => some (.inr (.inl (y4, v19, M20))))) (some (.inl M0)))) (fun r => some r) (fun M21 => zb1 (zw2 (gb_X11_ship_169 k l3 v17) zfu 0 M21) (fun M24 => zbd (g_X11_goesOn k M24) (fun M26 v25 => some (.inl (v17, v25, M26))))))))
theorem eb_X11_ship_132 {i : Nat} : fb_X11_ship_132 (zKn i) 76 = gb_X11_ship_132 (zKn i) := by
  funext l3 y4 y6 M0
  simp only [fb_X11_ship_132, gb_X11_ship_132, Int.cast_ofNat_Int, e_X11_catches, e_X11_goesOn, e_X11_leaves, eb_X11_ship_169]
def g_X11_ship (k : zK) (p1 : Int) (p2 : Int) (p3 : Int) (M0 : zM) : Option (zM × Int) :=
  zb1 (f_X11_within k p1 1 6 M0) (fun v1 => zbr v1 0 (v1 = 0) (some (M0, (-1))) (zb1 (f_X11_isAge k p2 M0) (fun v3 => zbr v3 0 (v3 = 0) (some (M0, (-1))) (zgd (0 ≤ (0 : Int) ∧ (0 : Int) < 4) (zbr (M0 80 (Int.toNat 0)) 0 (M0 80 (Int.toNat 0) = 0) (some (M0, (-1))) (zsp0 (zbr p3 0 (p3 = 0) (some (.inl ())) (zgd (0 ≤ (0 : Int) ∧ (0 : Int) < 4) (zb1 (f_X11_within k p3 10 (9 + (M0 80 (Int.toNat 0))) M0) (fun v5 => zbr v5 0 (¬ v5 = 0) (some (.inl ())) (some (.inr (M0, (-1)))))))) (fun r => some r) (zb1 (g_X11_finds k p2 M0) (fun M7 => zb1 (zw2 (gb_X11_ship_58 k p1 p3) zfu 0 M7) (fun M14 => zb2 (zw3 (gb_X11_ship_132 k p3) zfu (-1) 1 M14) (fun x27 M28 => zbr p3 0 (¬ p3 = 0) (zgd (0 ≤ p3 - 10 ∧ p3 - 10 < 10) (some (M28, M28 125 (p3 - 10).toNat))) (some (M28, 1000000 - x27))))))))))))
theorem e_X11_ship {i : Nat} : f_X11_ship (zKn i) 76 = g_X11_ship (zKn i) := by
  funext p1 p2 p3 M0
  simp only [f_X11_ship, g_X11_ship, Int.cast_ofNat_Int, zq_76_3, zq_76_68, e_X11_finds, eb_X11_ship_132, eb_X11_ship_58]
def gb_X11_shore_28 (k : zK) (l3 : Int) (M0 : zM) (y2 : Int) (y4 : Int) : Option ((Int × Int) ⊕ (Int)) :=
  zbr y4 4 (4 ≤ y4) (some (.inr y2)) (zb1 (f_X11_beside k l3 y4 M0) (fun v4 => zbr v4 0 (v4 < 0) (zlt (y4 + 2) (fun x6 => some (.inl (y2, x6)))) (zgd (0 ≤ l3 ∧ l3 < 256) (zb1 (f_X11_beside k l3 y4 M0) (fun v7 => zgd (0 ≤ v7 ∧ v7 < 256) (zbr (M0 118 l3.toNat) (M0 118 v7.toNat) (M0 118 l3.toNat = M0 118 v7.toNat) (zlt (y4 + 2) (fun x9 => some (.inl (y2, x9)))) (zlt (y2 + 1) (fun x10 => zlt (y4 + 2) (fun x11 => some (.inl (x10, x11)))))))))))
theorem eb_X11_shore_28 {i : Nat} : fb_X11_shore_28 (zKn i) 76 = gb_X11_shore_28 (zKn i) := by
  funext l3 M0 y2 y4
  simp only [fb_X11_shore_28, gb_X11_shore_28, Int.cast_ofNat_Int, zq_76_55]
def gb_X11_shore_18 (k : zK) (M0 : zM) (y2 : Int) (y3 : Int) : Option ((Int × Int) ⊕ (Int)) :=
  zbr y3 256 (256 ≤ y3) (some (.inr y2)) (zb1 (zw2 (gb_X11_shore_28 k y3 M0) zfu y2 1) (fun x12 => zlt (y3 + 1) (fun x13 => some (.inl (x12, x13)))))
theorem eb_X11_shore_18 {i : Nat} : fb_X11_shore_18 (zKn i) 76 = gb_X11_shore_18 (zKn i) := by
  funext M0 y2 y3
  simp only [fb_X11_shore_18, gb_X11_shore_18, Int.cast_ofNat_Int, eb_X11_shore_28]
def g_X11_shore (k : zK) (p1 : Int) (M0 : zM) : Option (zM × Int) :=
  zb1 (f_X11_isAge k p1 M0) (fun v1 => zbr v1 0 (¬ v1 = 0) (zb1 (g_X11_finds k p1 M0) (fun M3 => zb1 (zw2 (gb_X11_shore_18 k M3) zfu 0 0) (fun x14 => some (M3, x14)))) (some (M0, (-1))))
theorem e_X11_shore {i : Nat} : f_X11_shore (zKn i) 76 = g_X11_shore (zKn i) := by
  funext p1 M0
  simp only [f_X11_shore, g_X11_shore, Int.cast_ofNat_Int, e_X11_finds, eb_X11_shore_18]
def g_X11_sound (k : zK) (p1 : Int) (p2 : Int) (p3 : Int) (M0 : zM) : Option (zM × Int) :=
  zb1 (f_X11_isCell k p1 M0) (fun v1 => zsp1 (zbr v1 0 (v1 = 0) (some (.inl M0)) (zb1 (f_X11_within k p2 0 99 M0) (fun v3 => zbr v3 0 (v3 = 0) (some (.inl M0)) (zb1 (f_X11_within k p3 p2 99 M0) (fun v5 => zbr v5 0 (¬ v5 = 0) (zgd (0 ≤ p1 ∧ p1 < 1024) (zlt (zst M0 82 p1.toNat (p2)) (fun M7 => zgd (0 ≤ p1 ∧ p1 < 1024) (zlt (zst M7 83 p1.toNat (p3)) (fun M8 => some (.inr (M8, 1))))))) (some (.inl M0))))))) (fun r => some r) (fun M9 => zbd (g_X11_isNot k M9) (fun M11 v10 => zgd (v10 = 0 ∨ v10 = 1) (some (M11, v10)))))
theorem e_X11_sound {i : Nat} : f_X11_sound (zKn i) 76 = g_X11_sound (zKn i) := by
  funext p1 p2 p3 M0
  simp only [f_X11_sound, g_X11_sound, Int.cast_ofNat_Int, zq_76_5, zq_76_6, e_X11_isNot]
def gb_X11_tried_15 (k : zK) (l1 : Int) (y2 : Int) (y3 : Int) (M0 : zM) : Option ((Int × Int × zM) ⊕ (Int × zM)) :=
  zgd (0 ≤ (0 : Int) ∧ (0 : Int) < 4) (zbr y3 (M0 78 (Int.toNat 0)) (M0 78 (Int.toNat 0) ≤ y3) (some (.inr (y2, M0))) (zb1 (zbr l1 0 (¬ l1 = 0) (some (-1)) (zgd (0 ≤ y3 ∧ y3 < 320) (some (M0 86 y3.toNat)))) (fun x3 => zb1 (g_X11_learn k x3 y3 M0) (fun M4 => zgd (0 ≤ y3 ∧ y3 < 320) (zbr (M4 95 y3.toNat) 0 (M4 95 y3.toNat = 0) (zgd ((0 ≤ 1000 * (M4 76 61) ∧ 1000 * (M4 76 61) ≤ 2147483647) ∧ 0 < M4 76 62 ∧ M4 76 62 ≤ 2147483647) (zlt (y2 + ((1000 * (M4 76 61)) / (M4 76 62))) (fun x5 => zlt (y3 + 1) (fun x6 => some (.inl (x5, x6, M4)))))) (zgd ((0 ≤ 1000 * (M4 76 61) ∧ 1000 * (M4 76 61) ≤ 2147483647) ∧ 0 < M4 76 62 ∧ M4 76 62 ≤ 2147483647) (zlt (y2 + (1000 - ((1000 * (M4 76 61)) / (M4 76 62)))) (fun x7 => zlt (y3 + 1) (fun x8 => some (.inl (x7, x8, M4)))))))))))
theorem eb_X11_tried_15 {i : Nat} : fb_X11_tried_15 (zKn i) 76 = gb_X11_tried_15 (zKn i) := by
  funext l1 y2 y3 M0
  simp only [fb_X11_tried_15, gb_X11_tried_15, Int.cast_ofNat_Int, zq_76_1, zq_76_9, zq_76_18, e_X11_learn]
def g_X11_tried (k : zK) (p1 : Int) (M0 : zM) : Option (zM × Int) :=
  zb1 (f_X11_within k p1 0 1 M0) (fun v1 => zbr v1 0 (¬ v1 = 0) (zb2 (zw3 (gb_X11_tried_15 k p1) zfu 0 0 M0) (fun x9 M10 => some (M10, x9))) (some (M0, (-1))))
theorem e_X11_tried {i : Nat} : f_X11_tried (zKn i) 76 = g_X11_tried (zKn i) := by
  funext p1 M0
  simp only [f_X11_tried, g_X11_tried, Int.cast_ofNat_Int, eb_X11_tried_15]
def gb_X11_unlike_27 (k : zK) (l2 : Int) (y3 : Int) (M0 : zM) : Option ((Int × zM) ⊕ (zM)) :=
  zbr y3 16 (16 ≤ y3) (some (.inr M0)) (zgd (0 ≤ y3 ∧ y3 < 16) (zlt (zst M0 127 y3.toNat (0)) (fun M4 => zgd (0 ≤ y3 ∧ y3 < 16) (zlt (zst M4 128 y3.toNat (0)) (fun M5 => zlt (y3 + 1) (fun x6 => some (.inl (x6, M5))))))))
theorem eb_X11_unlike_27 {i : Nat} : fb_X11_unlike_27 (zKn i) 76 = gb_X11_unlike_27 (zKn i) := by
  funext l2 y3 M0
  simp only [fb_X11_unlike_27, gb_X11_unlike_27, Int.cast_ofNat_Int, zq_76_71, zq_76_72]
def gb_X11_unlike_55 (k : zK) (y2 : Int) (y3 : Int) (M0 : zM) : Option ((Int × Int × zM) ⊕ (Int × zM)) :=
  zbr y3 256 (256 ≤ y3) (some (.inr (y2, M0))) (zgd (0 ≤ y3 ∧ y3 < 256) (zbr (M0 118 y3.toNat) 0 (¬ M0 118 y3.toNat = 0) (zlt (y2 + 1) (fun x8 => zb1 (g_X11_kindOf k y3 M0) (fun v9 => zgd (0 ≤ v9 ∧ v9 < 16) (zgd (0 ≤ v9 ∧ v9 < 16) (zlt (zst M0 127 v9.toNat ((M0 127 v9.toNat) + 1)) (fun M11 => zlt (y3 + 1) (fun x12 => some (.inl (x8, x12, M11))))))))) (zlt (y3 + 1) (fun x13 => some (.inl (y2, x13, M0))))))
theorem eb_X11_unlike_55 {i : Nat} : fb_X11_unlike_55 (zKn i) 76 = gb_X11_unlike_55 (zKn i) := by
  funext y2 y3 M0
  simp only [fb_X11_unlike_55, gb_X11_unlike_55, Int.cast_ofNat_Int, zq_76_55, zq_76_71, e_X11_kindOf]
def gb_X11_unlike_105 (k : zK) (l2 : Int) (y3 : Int) (M0 : zM) : Option ((Int × zM) ⊕ (zM)) :=
  zgd (0 ≤ (0 : Int) ∧ (0 : Int) < 4) (zbr y3 (M0 78 (Int.toNat 0)) (M0 78 (Int.toNat 0) ≤ y3) (some (.inr M0)) (zgd (0 ≤ y3 ∧ y3 < 320) (zgd (0 ≤ M0 86 y3.toNat ∧ M0 86 y3.toNat < 16) (zgd (0 ≤ M0 86 y3.toNat ∧ M0 86 y3.toNat < 16) (zlt (zst M0 128 (M0 86 y3.toNat).toNat ((M0 128 (M0 86 y3.toNat).toNat) + 1)) (fun M16 => zlt (y3 + 1) (fun x17 => some (.inl (x17, M16)))))))))
theorem eb_X11_unlike_105 {i : Nat} : fb_X11_unlike_105 (zKn i) 76 = gb_X11_unlike_105 (zKn i) := by
  funext l2 y3 M0
  simp only [fb_X11_unlike_105, gb_X11_unlike_105, Int.cast_ofNat_Int, zq_76_1, zq_76_9, zq_76_72]
def gb_X11_unlike_141 (k : zK) (l2 : Int) (M0 : zM) (y3 : Int) (y4 : Int) : Option ((Int × Int) ⊕ (Int)) :=
  zbr y4 16 (16 ≤ y4) (some (.inr y3)) (zgd (0 ≤ y4 ∧ y4 < 16) (zgd ((0 ≤ 1000 * (M0 127 y4.toNat) ∧ 1000 * (M0 127 y4.toNat) ≤ 2147483647) ∧ 0 < l2 ∧ l2 ≤ 2147483647) (zgd (0 ≤ y4 ∧ y4 < 16) (zgd (0 ≤ (0 : Int) ∧ (0 : Int) < 4) (zgd ((0 ≤ 1000 * (M0 128 y4.toNat) ∧ 1000 * (M0 128 y4.toNat) ≤ 2147483647) ∧ 0 < M0 78 (Int.toNat 0) ∧ M0 78 (Int.toNat 0) ≤ 2147483647) (zb1 (f_X11_distance k ((1000 * (M0 127 y4.toNat)) / l2) ((1000 * (M0 128 y4.toNat)) / (M0 78 (Int.toNat 0))) M0) (fun v19 => zlt (y3 + v19) (fun x21 => zlt (y4 + 1) (fun x22 => some (.inl (x21, x22)))))))))))
theorem eb_X11_unlike_141 {i : Nat} : fb_X11_unlike_141 (zKn i) 76 = gb_X11_unlike_141 (zKn i) := by
  funext l2 M0 y3 y4
  simp only [fb_X11_unlike_141, gb_X11_unlike_141, Int.cast_ofNat_Int, zq_76_1, zq_76_71, zq_76_72]
def g_X11_unlike (k : zK) (p1 : Int) (M0 : zM) : Option (zM × Int) :=
  zb1 (f_X11_isAge k p1 M0) (fun v1 => zbr v1 0 (v1 = 0) (some (M0, (-1))) (zgd (0 ≤ (0 : Int) ∧ (0 : Int) < 4) (zbr (M0 78 (Int.toNat 0)) 0 (¬ M0 78 (Int.toNat 0) = 0) (zb1 (g_X11_finds k p1 M0) (fun M3 => zb1 (zw2 (gb_X11_unlike_27 k 0) zfu 0 M3) (fun M7 => zb2 (zw3 (gb_X11_unlike_55 k) zfu 0 0 M7) (fun x14 M15 => zbr x14 0 (¬ x14 = 0) (zb1 (zw2 (gb_X11_unlike_105 k x14) zfu 0 M15) (fun M18 => zb1 (zw2 (gb_X11_unlike_141 k x14 M18) zfu 0 0) (fun x23 => some (M18, x23)))) (some (M15, (-1))))))) (some (M0, (-1))))))
theorem e_X11_unlike {i : Nat} : f_X11_unlike (zKn i) 76 = g_X11_unlike (zKn i) := by
  funext p1 M0
  simp only [f_X11_unlike, g_X11_unlike, Int.cast_ofNat_Int, zq_76_1, e_X11_finds, eb_X11_unlike_105, eb_X11_unlike_141, eb_X11_unlike_27, eb_X11_unlike_55]
def gb_X11_world_61 (k : zK) (l1 : Int) (l2 : Int) (l3 : Int) (l4 : Int) (l5 : Int) (M0 : zM) (y6 : Int) (y7 : Int) : Option ((Int × Int) ⊕ (Int)) :=
  zbr y7 256 (256 ≤ y7) (some (.inr y6)) (zgd (0 ≤ y7 ∧ y7 < 256) (zlt (y6 + (M0 126 y7.toNat)) (fun x12 => zlt (y7 + 1) (fun x13 => some (.inl (x12, x13))))))
theorem eb_X11_world_61 {i : Nat} : fb_X11_world_61 (zKn i) 76 = gb_X11_world_61 (zKn i) := by
  funext l1 l2 l3 l4 l5 M0 y6 y7
  simp only [fb_X11_world_61, gb_X11_world_61, Int.cast_ofNat_Int, zq_76_69]
def gb_X11_world_131 (k : zK) (l2 : Int) (l3 : Int) (l4 : Int) (l5 : Int) (l6 : Int) (l7 : Int) (l8 : Int) (l9 : Int) (M0 : zM) (y10 : Int) (y11 : Int) : Option ((Int × Int) ⊕ (Int)) :=
  zbr y11 l9 (l9 < y11) (some (.inr y10)) (zlt (y10 + 1) (fun x19 => zgd (0 ≤ x19 ∧ x19 < 256) (zlt (y11 + (M0 126 x19.toNat)) (fun x20 => some (.inl (x19, x20))))))
theorem eb_X11_world_131 {i : Nat} : fb_X11_world_131 (zKn i) 76 = gb_X11_world_131 (zKn i) := by
  funext l2 l3 l4 l5 l6 l7 l8 l9 M0 y10 y11
  simp only [fb_X11_world_131, gb_X11_world_131, Int.cast_ofNat_Int, zq_76_69]
def gb_X11_world_106 (k : zK) (l2 : Int) (l3 : Int) (l4 : Int) (l5 : Int) (l6 : Int) (y7 : Int) (y8 : Int) (M0 : zM) : Option ((Int × Int × zM) ⊕ (Int × zM)) :=
  zbr y8 l3 (l3 ≤ y8) (some (.inr (y7, M0))) (zbd (g_X11_draw k l6 M0) (fun M17 v16 => zgd (0 ≤ (0 : Int) ∧ (0 : Int) < 256) (zlt (M17 126 (Int.toNat 0)) (fun x18 => zb1 (zw2 (gb_X11_world_131 k l2 l3 l4 l5 l6 y7 y8 v16 M17) zfu 0 x18) (fun x21 => zbd (g_X11_by k 4 x21 l2 M17) (fun M23 v22 => zbd (g_X11_draw k 100 M23) (fun M25 v24 => zb1 (zbr v24 v22 (v22 ≤ v24) (some (0)) (some (1))) (fun x26 => zsp1 (zbr x26 0 (x26 = 0) (some (.inl y8)) (zbr x21 l4 (¬ x21 = l4) (some (.inl y8)) (zlt (zo_or y7 1) (fun x27 => zlt (y8 + 1) (fun x28 => some (.inr (.inl (x27, x28, M25)))))))) (fun r => some r) (fun x29 => zlt (zo_or y7 0) (fun x30 => zlt (x29 + 1) (fun x31 => some (.inl (x30, x31, M25)))))))))))))
theorem eb_X11_world_106 {i : Nat} : fb_X11_world_106 (zKn i) 76 = gb_X11_world_106 (zKn i) := by
  funext l2 l3 l4 l5 l6 y7 y8 M0
  simp only [fb_X11_world_106, gb_X11_world_106, Int.cast_ofNat_Int, zq_76_69, e_X11_by, e_X11_draw, eb_X11_world_131]
def gb_X11_world_218 (k : zK) (l5 : Int) (l7 : Int) (y8 : Int) (y9 : Int) (M0 : zM) : Option ((Int × Int × zM) ⊕ (Int × zM)) :=
  zbr y9 l5 (l5 ≤ y9) (some (.inr (y8, M0))) (zbd (g_X11_draw k 10 M0) (fun M35 v34 => zb1 (g_X11_catches k M35) (fun v36 => zsp1 (zbr v34 v36 (v36 ≤ v34) (some (.inl y9)) (zbr l7 0 (l7 = 0) (some (.inl y9)) (zlt (y8 + 1) (fun x38 => zlt (y9 + 1) (fun x39 => some (.inr (.inl (x38, x39, M35)))))))) (fun r => some r) (fun x40 => zlt (y8 + 0) (fun x41 => zlt (x40 + 1) (fun x42 => some (.inl (x41, x42, M35))))))))
theorem eb_X11_world_218 {i : Nat} : fb_X11_world_218 (zKn i) 76 = gb_X11_world_218 (zKn i) := by
  funext l5 l7 y8 y9 M0
  simp only [fb_X11_world_218, gb_X11_world_218, Int.cast_ofNat_Int, e_X11_catches, e_X11_draw]
def g_X11_world (k : zK) (p1 : Int) (p2 : Int) (p3 : Int) (p4 : Int) (p5 : Int) (M0 : zM) : Option (zM × Int) :=
  zb1 (f_X11_within k p1 0 999999999 M0) (fun v1 => zbr v1 0 (v1 = 0) (some (M0, (-1))) (zb1 (f_X11_isAge k p2 M0) (fun v3 => zbr v3 0 (v3 = 0) (some (M0, (-1))) (zb1 (f_X11_within k p3 1 200 M0) (fun v5 => zbr v5 0 (v5 = 0) (some (M0, (-1))) (zb1 (f_X11_isCell k p4 M0) (fun v7 => zbr v7 0 (v7 = 0) (some (M0, (-1))) (zb1 (f_X11_within k p5 0 99 M0) (fun v9 => zbr v9 0 (¬ v9 = 0) (zb1 (g_X11_findLives k p2 M0) (fun M11 => zb1 (zw2 (gb_X11_world_61 k p1 p2 p3 p4 p5 M11) zfu 0 0) (fun x14 => zbr x14 0 (¬ x14 = 0) (zgd (zr p1) (zlt (zst M11 76 70 p1) (fun M15 => zb2 (zw3 (gb_X11_world_106 k p2 p3 p4 p5 x14) zfu 0 0 M15) (fun x32 M33 => zb2 (zw3 (gb_X11_world_218 k p5 x32) zfu 0 0 M33) (fun x43 M44 => some (M44, x43)))))) (some (M11, (-1)))))) (some (M0, (-1))))))))))))
theorem e_X11_world {i : Nat} : f_X11_world (zKn i) 76 = g_X11_world (zKn i) := by
  funext p1 p2 p3 p4 p5 M0
  simp only [f_X11_world, g_X11_world, Int.cast_ofNat_Int, e_X11_findLives, eb_X11_world_106, eb_X11_world_218, eb_X11_world_61]

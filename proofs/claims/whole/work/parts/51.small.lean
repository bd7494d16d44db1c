/-! ids -/
theorem zQ_ {i r s v : Nat} (h : r < 129) (e : (zKL.getD r (0, 0, [])).2.2.getD s 0 = v) : zfr (zKn i) r s = v := by
  unfold zfr zKn
  rw [if_pos (by omega)]
  exact e
theorem zQl_ {i r v : Nat} (h : r < 129) (e : (zKL.getD r (0, 0, [])).2.1 = v) : zlen (zKn i) r = v := by
  unfold zlen zKn
  rw [if_pos (by omega)]
  exact e
theorem zQ {i : Nat} : zfr (zKn i) 1 0 = 2 ∧ zfr (zKn i) 1 1 = 4 ∧ zfr (zKn i) 1 2 = 20 ∧ zfr (zKn i) 1 3 = 21 ∧ zfr (zKn i) 1 4 = 24 ∧ zfr (zKn i) 1 5 = 39 ∧ zfr (zKn i) 1 6 = 43 ∧ zfr (zKn i) 1 7 = 46 ∧ zfr (zKn i) 1 8 = 50 ∧ zfr (zKn i) 1 9 = 51 ∧ zfr (zKn i) 2 0 = 3 ∧ zfr (zKn i) 4 0 = 5 ∧ zfr (zKn i) 4 1 = 18 ∧ zfr (zKn i) 4 2 = 6 ∧ zfr (zKn i) 4 3 = 19 ∧ zfr (zKn i) 4 4 = 7 ∧ zfr (zKn i) 4 5 = 8 ∧ zfr (zKn i) 4 6 = 9 ∧ zfr (zKn i) 4 7 = 10 ∧ zfr (zKn i) 4 8 = 11 ∧ zfr (zKn i) 4 9 = 12 ∧ zfr (zKn i) 4 10 = 13 ∧ zfr (zKn i) 4 11 = 14 ∧ zfr (zKn i) 4 12 = 15 ∧ zfr (zKn i) 4 13 = 16 ∧ zfr (zKn i) 4 14 = 17 ∧ zfr (zKn i) 21 0 = 22 ∧ zfr (zKn i) 21 1 = 23 ∧ zfr (zKn i) 21 2 = 24 ∧ zfr (zKn i) 21 3 = 36 ∧ zfr (zKn i) 21 4 = 37 ∧ zfr (zKn i) 21 5 = 38 ∧ zfr (zKn i) 24 0 = 25 ∧ zfr (zKn i) 24 1 = 26 ∧ zfr (zKn i) 24 2 = 27 ∧ zfr (zKn i) 24 3 = 28 ∧ zfr (zKn i) 24 4 = 29 ∧ zfr (zKn i) 24 5 = 30 ∧ zfr (zKn i) 24 6 = 31 ∧ zfr (zKn i) 24 7 = 32 ∧ zfr (zKn i) 24 8 = 33 ∧ zfr (zKn i) 24 9 = 34 ∧ zfr (zKn i) 24 10 = 35 ∧ zfr (zKn i) 39 0 = 40 ∧ zfr (zKn i) 39 1 = 41 ∧ zfr (zKn i) 39 2 = 42 ∧ zfr (zKn i) 43 0 = 44 ∧ zfr (zKn i) 43 1 = 45 ∧ zfr (zKn i) 46 0 = 47 ∧ zfr (zKn i) 46 2 = 48 ∧ zfr (zKn i) 46 3 = 49 ∧ zfr (zKn i) 52 2 = 53 ∧ zfr (zKn i) 52 3 = 54 ∧ zfr (zKn i) 52 4 = 55 ∧ zfr (zKn i) 52 5 = 56 ∧ zfr (zKn i) 52 6 = 57 ∧ zfr (zKn i) 52 8 = 58 ∧ zfr (zKn i) 52 9 = 59 ∧ zfr (zKn i) 52 10 = 60 ∧ zfr (zKn i) 52 11 = 61 ∧ zfr (zKn i) 52 12 = 62 ∧ zfr (zKn i) 52 14 = 63 ∧ zfr (zKn i) 64 2 = 65 ∧ zfr (zKn i) 64 3 = 66 ∧ zfr (zKn i) 64 4 = 67 ∧ zfr (zKn i) 64 5 = 68 ∧ zfr (zKn i) 64 6 = 69 ∧ zfr (zKn i) 64 8 = 70 ∧ zfr (zKn i) 64 9 = 71 ∧ zfr (zKn i) 64 10 = 72 ∧ zfr (zKn i) 64 11 = 73 ∧ zfr (zKn i) 64 12 = 74 ∧ zfr (zKn i) 64 14 = 75 ∧ zfr (zKn i) 76 0 = 77 ∧ zfr (zKn i) 76 1 = 78 ∧ zfr (zKn i) 76 2 = 79 ∧ zfr (zKn i) 76 3 = 80 ∧ zfr (zKn i) 76 4 = 81 ∧ zfr (zKn i) 76 5 = 82 ∧ zfr (zKn i) 76 6 = 83 ∧ zfr (zKn i) 76 7 = 84 ∧ zfr (zKn i) 76 8 = 85 ∧ zfr (zKn i) 76 9 = 86 ∧ zfr (zKn i) 76 10 = 87 ∧ zfr (zKn i) 76 11 = 88 ∧ zfr (zKn i) 76 12 = 89 ∧ zfr (zKn i) 76 13 = 90 ∧ zfr (zKn i) 76 14 = 91 ∧ zfr (zKn i) 76 15 = 92 ∧ zfr (zKn i) 76 16 = 93 ∧ zfr (zKn i) 76 17 = 94 ∧ zfr (zKn i) 76 18 = 95 ∧ zfr (zKn i) 76 19 = 96 ∧ zfr (zKn i) 76 21 = 97 ∧ zfr (zKn i) 76 22 = 98 ∧ zfr (zKn i) 76 23 = 99 ∧ zfr (zKn i) 76 24 = 100 ∧ zfr (zKn i) 76 25 = 101 ∧ zfr (zKn i) 76 26 = 102 ∧ zfr (zKn i) 76 27 = 103 ∧ zfr (zKn i) 76 29 = 104 ∧ zfr (zKn i) 76 30 = 105 ∧ zfr (zKn i) 76 31 = 106 ∧ zfr (zKn i) 76 32 = 107 ∧ zfr (zKn i) 76 33 = 108 ∧ zfr (zKn i) 76 43 = 109 ∧ zfr (zKn i) 76 44 = 110 ∧ zfr (zKn i) 76 46 = 111 ∧ zfr (zKn i) 76 47 = 112 ∧ zfr (zKn i) 76 50 = 113 ∧ zfr (zKn i) 76 51 = 114 ∧ zfr (zKn i) 76 52 = 115 ∧ zfr (zKn i) 76 53 = 116 ∧ zfr (zKn i) 76 54 = 117 ∧ zfr (zKn i) 76 55 = 118 ∧ zfr (zKn i) 76 56 = 119 ∧ zfr (zKn i) 76 57 = 120 ∧ zfr (zKn i) 76 58 = 121 ∧ zfr (zKn i) 76 65 = 122 ∧ zfr (zKn i) 76 66 = 123 ∧ zfr (zKn i) 76 67 = 124 ∧ zfr (zKn i) 76 68 = 125 ∧ zfr (zKn i) 76 69 = 126 ∧ zfr (zKn i) 76 71 = 127 ∧ zfr (zKn i) 76 72 = 128 := ⟨zQ_ (by decide) rfl, zQ_ (by decide) rfl, zQ_ (by decide) rfl, zQ_ (by decide) rfl, zQ_ (by decide) rfl, zQ_ (by decide) rfl, zQ_ (by decide) rfl, zQ_ (by decide) rfl, zQ_ (by decide) rfl, zQ_ (by decide) rfl, zQ_ (by decide) rfl, zQ_ (by decide) rfl, zQ_ (by decide) rfl, zQ_ (by decide) rfl, zQ_ (by decide) rfl, zQ_ (by decide) rfl, zQ_ (by decide) rfl, zQ_ (by decide) rfl, zQ_ (by decide) rfl, zQ_ (by decide) rfl, zQ_ (by decide) rfl, zQ_ (by decide) rfl, zQ_ (by decide) rfl, zQ_ (by decide) rfl, zQ_ (by decide) rfl, zQ_ (by decide) rfl, zQ_ (by decide) rfl, zQ_ (by decide) rfl, zQ_ (by decide) rfl, zQ_ (by decide) rfl, zQ_ (by decide) rfl, zQ_ (by decide) rfl, zQ_ (by decide) rfl, zQ_ (by decide) rfl, zQ_ (by decide) rfl, zQ_ (by decide) rfl, zQ_ (by decide) rfl, zQ_ (by decide) rfl, zQ_ (by decide) rfl, zQ_ (by decide) rfl, zQ_ (by decide) rfl, zQ_ (by decide) rfl, zQ_ (by decide) rfl, zQ_ (by decide) rfl, zQ_ (by decide) rfl, zQ_ (by decide) rfl, zQ_ (by decide) rfl, zQ_ (by decide) rfl, zQ_ (by decide) rfl, zQ_ (by decide) rfl, zQ_ (by decide) rfl, zQ_ (by decide) rfl, zQ_ (by decide) rfl, zQ_ (by decide) rfl, zQ_ (by decide) rfl, zQ_ (by decide) rfl, zQ_ (by decide) rfl, zQ_ (by decide) rfl, zQ_ (by decide) rfl, zQ_ (by decide) rfl, zQ_ (by decide) rfl, zQ_ (by decide) rfl, zQ_ (by decide) rfl, zQ_ (by decide) rfl, zQ_ (by decide) rfl, zQ_ (by decide) rfl, zQ_ (by decide) rfl, zQ_ (by decide) rfl, zQ_ (by decide) rfl, zQ_ (by decide) rfl, zQ_ (by decide) rfl, zQ_ (by decide) rfl, zQ_ (by decide) rfl, zQ_ (by decide) rfl, zQ_ (by decide) rfl, zQ_ (by decide) rfl, zQ_ (by decide) rfl, zQ_ (by decide) rfl, zQ_ (by decide) rfl, zQ_ (by decide) rfl, zQ_ (by decide) rfl, zQ_ (by decide) rfl, zQ_ (by decide) rfl, zQ_ (by decide) rfl, zQ_ (by decide) rfl, zQ_ (by decide) rfl, zQ_ (by decide) rfl, zQ_ (by decide) rfl, zQ_ (by decide) rfl, zQ_ (by decide) rfl, zQ_ (by decide) rfl, zQ_ (by decide) rfl, zQ_ (by decide) rfl, zQ_ (by decide) rfl, zQ_ (by decide) rfl, zQ_ (by decide) rfl, zQ_ (by decide) rfl, zQ_ (by decide) rfl, zQ_ (by decide) rfl, zQ_ (by decide) rfl, zQ_ (by decide) rfl, zQ_ (by decide) rfl, zQ_ (by decide) rfl, zQ_ (by decide) rfl, zQ_ (by decide) rfl, zQ_ (by decide) rfl, zQ_ (by decide) rfl, zQ_ (by decide) rfl, zQ_ (by decide) rfl, zQ_ (by decide) rfl, zQ_ (by decide) rfl, zQ_ (by decide) rfl, zQ_ (by decide) rfl, zQ_ (by decide) rfl, zQ_ (by decide) rfl, zQ_ (by decide) rfl, zQ_ (by decide) rfl, zQ_ (by decide) rfl, zQ_ (by decide) rfl, zQ_ (by decide) rfl, zQ_ (by decide) rfl, zQ_ (by decide) rfl, zQ_ (by decide) rfl, zQ_ (by decide) rfl, zQ_ (by decide) rfl⟩
theorem zQl {i : Nat} : zlen (zKn i) 3 = 700 ∧ zlen (zKn i) 5 = 256 ∧ zlen (zKn i) 6 = 256 ∧ zlen (zKn i) 7 = 16 ∧ zlen (zKn i) 8 = 16 ∧ zlen (zKn i) 9 = 60 ∧ zlen (zKn i) 10 = 60 ∧ zlen (zKn i) 11 = 60 ∧ zlen (zKn i) 12 = 60 ∧ zlen (zKn i) 13 = 10 ∧ zlen (zKn i) 14 = 40 ∧ zlen (zKn i) 15 = 40 ∧ zlen (zKn i) 16 = 40 ∧ zlen (zKn i) 17 = 40 ∧ zlen (zKn i) 18 = 256 ∧ zlen (zKn i) 19 = 256 ∧ zlen (zKn i) 20 = 3 ∧ zlen (zKn i) 22 = 256 ∧ zlen (zKn i) 23 = 256 ∧ zlen (zKn i) 25 = 256 ∧ zlen (zKn i) 26 = 256 ∧ zlen (zKn i) 27 = 256 ∧ zlen (zKn i) 28 = 256 ∧ zlen (zKn i) 29 = 256 ∧ zlen (zKn i) 30 = 256 ∧ zlen (zKn i) 31 = 256 ∧ zlen (zKn i) 32 = 256 ∧ zlen (zKn i) 33 = 256 ∧ zlen (zKn i) 34 = 200 ∧ zlen (zKn i) 35 = 8 ∧ zlen (zKn i) 36 = 256 ∧ zlen (zKn i) 37 = 8 ∧ zlen (zKn i) 38 = 16 ∧ zlen (zKn i) 40 = 100 ∧ zlen (zKn i) 41 = 25600 ∧ zlen (zKn i) 42 = 100 ∧ zlen (zKn i) 44 = 256 ∧ zlen (zKn i) 45 = 256 ∧ zlen (zKn i) 47 = 10 ∧ zlen (zKn i) 48 = 10 ∧ zlen (zKn i) 49 = 70 ∧ zlen (zKn i) 51 = 3 ∧ zlen (zKn i) 53 = 40 ∧ zlen (zKn i) 54 = 40 ∧ zlen (zKn i) 55 = 40 ∧ zlen (zKn i) 56 = 40 ∧ zlen (zKn i) 57 = 700 ∧ zlen (zKn i) 58 = 100 ∧ zlen (zKn i) 59 = 100 ∧ zlen (zKn i) 60 = 100 ∧ zlen (zKn i) 61 = 100 ∧ zlen (zKn i) 62 = 100 ∧ zlen (zKn i) 63 = 3 ∧ zlen (zKn i) 65 = 40 ∧ zlen (zKn i) 66 = 40 ∧ zlen (zKn i) 67 = 40 ∧ zlen (zKn i) 68 = 40 ∧ zlen (zKn i) 69 = 700 ∧ zlen (zKn i) 70 = 100 ∧ zlen (zKn i) 71 = 100 ∧ zlen (zKn i) 72 = 100 ∧ zlen (zKn i) 73 = 100 ∧ zlen (zKn i) 74 = 100 ∧ zlen (zKn i) 75 = 3 ∧ zlen (zKn i) 77 = 3 ∧ zlen (zKn i) 78 = 4 ∧ zlen (zKn i) 79 = 4 ∧ zlen (zKn i) 80 = 4 ∧ zlen (zKn i) 81 = 4 ∧ zlen (zKn i) 82 = 1024 ∧ zlen (zKn i) 83 = 1024 ∧ zlen (zKn i) 84 = 1024 ∧ zlen (zKn i) 85 = 1024 ∧ zlen (zKn i) 86 = 320 ∧ zlen (zKn i) 87 = 240 ∧ zlen (zKn i) 88 = 240 ∧ zlen (zKn i) 89 = 240 ∧ zlen (zKn i) 90 = 240 ∧ zlen (zKn i) 91 = 40 ∧ zlen (zKn i) 92 = 160 ∧ zlen (zKn i) 93 = 160 ∧ zlen (zKn i) 94 = 160 ∧ zlen (zKn i) 95 = 320 ∧ zlen (zKn i) 96 = 160 ∧ zlen (zKn i) 97 = 2 ∧ zlen (zKn i) 98 = 80 ∧ zlen (zKn i) 99 = 80 ∧ zlen (zKn i) 100 = 80 ∧ zlen (zKn i) 101 = 80 ∧ zlen (zKn i) 102 = 80 ∧ zlen (zKn i) 103 = 80 ∧ zlen (zKn i) 104 = 2000 ∧ zlen (zKn i) 105 = 2000 ∧ zlen (zKn i) 106 = 2000 ∧ zlen (zKn i) 107 = 2000 ∧ zlen (zKn i) 108 = 700 ∧ zlen (zKn i) 109 = 12 ∧ zlen (zKn i) 110 = 12 ∧ zlen (zKn i) 111 = 7 ∧ zlen (zKn i) 112 = 300 ∧ zlen (zKn i) 113 = 256 ∧ zlen (zKn i) 114 = 256 ∧ zlen (zKn i) 115 = 256 ∧ zlen (zKn i) 116 = 256 ∧ zlen (zKn i) 117 = 256 ∧ zlen (zKn i) 118 = 256 ∧ zlen (zKn i) 119 = 256 ∧ zlen (zKn i) 120 = 256 ∧ zlen (zKn i) 121 = 256 ∧ zlen (zKn i) 122 = 256 ∧ zlen (zKn i) 123 = 10 ∧ zlen (zKn i) 124 = 10 ∧ zlen (zKn i) 125 = 10 ∧ zlen (zKn i) 126 = 256 ∧ zlen (zKn i) 127 = 16 ∧ zlen (zKn i) 128 = 16 := ⟨zQl_ (by decide) rfl, zQl_ (by decide) rfl, zQl_ (by decide) rfl, zQl_ (by decide) rfl, zQl_ (by decide) rfl, zQl_ (by decide) rfl, zQl_ (by decide) rfl, zQl_ (by decide) rfl, zQl_ (by decide) rfl, zQl_ (by decide) rfl, zQl_ (by decide) rfl, zQl_ (by decide) rfl, zQl_ (by decide) rfl, zQl_ (by decide) rfl, zQl_ (by decide) rfl, zQl_ (by decide) rfl, zQl_ (by decide) rfl, zQl_ (by decide) rfl, zQl_ (by decide) rfl, zQl_ (by decide) rfl, zQl_ (by decide) rfl, zQl_ (by decide) rfl, zQl_ (by decide) rfl, zQl_ (by decide) rfl, zQl_ (by decide) rfl, zQl_ (by decide) rfl, zQl_ (by decide) rfl, zQl_ (by decide) rfl, zQl_ (by decide) rfl, zQl_ (by decide) rfl, zQl_ (by decide) rfl, zQl_ (by decide) rfl, zQl_ (by decide) rfl, zQl_ (by decide) rfl, zQl_ (by decide) rfl, zQl_ (by decide) rfl, zQl_ (by decide) rfl, zQl_ (by decide) rfl, zQl_ (by decide) rfl, zQl_ (by decide) rfl, zQl_ (by decide) rfl, zQl_ (by decide) rfl, zQl_ (by decide) rfl, zQl_ (by decide) rfl, zQl_ (by decide) rfl, zQl_ (by decide) rfl, zQl_ (by decide) rfl, zQl_ (by decide) rfl, zQl_ (by decide) rfl, zQl_ (by decide) rfl, zQl_ (by decide) rfl, zQl_ (by decide) rfl, zQl_ (by decide) rfl, zQl_ (by decide) rfl, zQl_ (by decide) rfl, zQl_ (by decide) rfl, zQl_ (by decide) rfl, zQl_ (by decide) rfl, zQl_ (by decide) rfl, zQl_ (by decide) rfl, zQl_ (by decide) rfl, zQl_ (by decide) rfl, zQl_ (by decide) rfl, zQl_ (by decide) rfl, zQl_ (by decide) rfl, zQl_ (by decide) rfl, zQl_ (by decide) rfl, zQl_ (by decide) rfl, zQl_ (by decide) rfl, zQl_ (by decide) rfl, zQl_ (by decide) rfl, zQl_ (by decide) rfl, zQl_ (by decide) rfl, zQl_ (by decide) rfl, zQl_ (by decide) rfl, zQl_ (by decide) rfl, zQl_ (by decide) rfl, zQl_ (by decide) rfl, zQl_ (by decide) rfl, zQl_ (by decide) rfl, zQl_ (by decide) rfl, zQl_ (by decide) rfl, zQl_ (by decide) rfl, zQl_ (by decide) rfl, zQl_ (by decide) rfl, zQl_ (by decide) rfl, zQl_ (by decide) rfl, zQl_ (by decide) rfl, zQl_ (by decide) rfl, zQl_ (by decide) rfl, zQl_ (by decide) rfl, zQl_ (by decide) rfl, zQl_ (by decide) rfl, zQl_ (by decide) rfl, zQl_ (by decide) rfl, zQl_ (by decide) rfl, zQl_ (by decide) rfl, zQl_ (by decide) rfl, zQl_ (by decide) rfl, zQl_ (by decide) rfl, zQl_ (by decide) rfl, zQl_ (by decide) rfl, zQl_ (by decide) rfl, zQl_ (by decide) rfl, zQl_ (by decide) rfl, zQl_ (by decide) rfl, zQl_ (by decide) rfl, zQl_ (by decide) rfl, zQl_ (by decide) rfl, zQl_ (by decide) rfl, zQl_ (by decide) rfl, zQl_ (by decide) rfl, zQl_ (by decide) rfl, zQl_ (by decide) rfl, zQl_ (by decide) rfl, zQl_ (by decide) rfl⟩
/-- a LAW at L: 52 or 64 -/
theorem zQL {i L : Nat} (h : L = 52 ∨ L = 64) : zfr (zKn i) L 2 = L + 1 ∧ zfr (zKn i) L 3 = L + 2 ∧ zfr (zKn i) L 4 = L + 3 ∧ zfr (zKn i) L 5 = L + 4 ∧ zfr (zKn i) L 6 = L + 5 ∧ zfr (zKn i) L 8 = L + 6 ∧ zfr (zKn i) L 9 = L + 7 ∧ zfr (zKn i) L 10 = L + 8 ∧ zfr (zKn i) L 11 = L + 9 ∧ zfr (zKn i) L 12 = L + 10 ∧ zfr (zKn i) L 14 = L + 11 := by
  rcases h with rfl | rfl
  · exact ⟨zQ_ (by decide) rfl, zQ_ (by decide) rfl, zQ_ (by decide) rfl, zQ_ (by decide) rfl, zQ_ (by decide) rfl, zQ_ (by decide) rfl, zQ_ (by decide) rfl, zQ_ (by decide) rfl, zQ_ (by decide) rfl, zQ_ (by decide) rfl, zQ_ (by decide) rfl⟩
  · exact ⟨zQ_ (by decide) rfl, zQ_ (by decide) rfl, zQ_ (by decide) rfl, zQ_ (by decide) rfl, zQ_ (by decide) rfl, zQ_ (by decide) rfl, zQ_ (by decide) rfl, zQ_ (by decide) rfl, zQ_ (by decide) rfl, zQ_ (by decide) rfl, zQ_ (by decide) rfl⟩
/-! small ones -/
theorem f10_isCell {k : zK} {c : Int} {M : zM} (h : zr c) : f_X10_isCell k c M = some (if 0 ≤ c ∧ c < 256 then 1 else 0) := by
  unfold f_X10_isCell zbr
  simp only [h, true_and, and_self, if_true, zr, and_true]
  repeat' split
  all_goals first | rfl | omega
theorem f11_isCell {k : zK} {c : Int} {M : zM} (h : zr c) : f_X11_isCell k c M = some (if 0 ≤ c ∧ c < 256 then 1 else 0) := by
  unfold f_X11_isCell zbr
  repeat' split
  all_goals first | rfl | omega
theorem f10_isAge {k : zK} {c : Int} {M : zM} (h : zr c) : f_X10_isAge k c M = some (if 0 ≤ c ∧ c < 100 then 1 else 0) := by
  unfold f_X10_isAge zbr
  repeat' split
  all_goals first | rfl | omega
theorem f11_isAge {k : zK} {c : Int} {M : zM} (h : zr c) : f_X11_isAge k c M = some (if 0 ≤ c ∧ c < 100 then 1 else 0) := by
  unfold f_X11_isAge zbr
  repeat' split
  all_goals first | rfl | omega
theorem f10_isHeight {k : zK} {c : Int} {M : zM} (h : zr c) : f_X10_isHeight k c M = some (if 0 ≤ c ∧ c ≤ 99 then 1 else 0) := by
  unfold f_X10_isHeight zbr
  repeat' split
  all_goals first | rfl | omega
theorem f10_isKind {k : zK} {c : Int} {M : zM} (h : zr c) : f_X10_isKind k c M = some (if 0 ≤ c ∧ c < 16 then 1 else 0) := by
  unfold f_X10_isKind zbr
  repeat' split
  all_goals first | rfl | omega
theorem f10_isPart {k : zK} {c : Int} {M : zM} (h : zr c) : f_X10_isPart k c M = some (if c = 0 ∨ c = 1 then 1 else 0) := by
  unfold f_X10_isPart zbr
  repeat' split
  all_goals first | rfl | omega
theorem f10_isWave {k : zK} {a b : Int} {M : zM} (h : zr a) (h' : zr b) : f_X10_isWave k a b M = some (if 1 ≤ a ∧ a ≤ 99 ∧ 0 ≤ b ∧ b ≤ 20 then 1 else 0) := by
  unfold f_X10_isWave zbr
  repeat' split
  all_goals first | rfl | omega
theorem f11_within {k : zK} {a b c : Int} {M : zM} (ha : zr a) (hb : zr b) (hc : zr c) : f_X11_within k a b c M = some (if b ≤ a ∧ a ≤ c then 1 else 0) := by
  unfold f_X11_within zbr
  repeat' split
  all_goals first | rfl | omega
theorem f10_areAges {k : zK} {a b : Int} {M : zM} (ha : zr a) (hb : zr b) : f_X10_areAges k a b M = some (if 0 ≤ a ∧ b < 100 ∧ a ≤ b then 1 else 0) := by
  unfold f_X10_areAges
  rw [f10_isAge ha, f10_isAge hb]
  simp only [zb1_some]
  unfold zbr
  repeat' split
  all_goals first | rfl | omega
theorem f11_areAges {k : zK} {a b : Int} {M : zM} (ha : zr a) (hb : zr b) : f_X11_areAges k a b M = some (if 0 ≤ a ∧ b < 100 ∧ a ≤ b then 1 else 0) := by
  unfold f_X11_areAges
  rw [f11_isAge ha, f11_isAge hb]
  simp only [zb1_some]
  unfold zbr
  repeat' split
  all_goals first | rfl | omega
/-- the neighbour to a side, as the class counts sides: north, west, east, south -/
def zbs (c : Nat) (d : Nat) : Int := if d = 0 then (if c < 16 then -1 else c - 16) else if d = 1 then (if c % 16 = 0 then -1 else c - 1) else if d = 2 then (if c % 16 = 15 then -1 else c + 1) else (if 240 ≤ c then -1 else c + 16)
theorem zbs_r {c d : Nat} (hc : c < 256) : -1 ≤ zbs c d ∧ zbs c d < 256 := by
  unfold zbs
  repeat' split
  all_goals omega
/-- as the reference counts them: west, east, north, south -/
def zbw (d : Nat) : Nat := if d = 0 then 1 else if d = 1 then 2 else if d = 2 then 0 else 3
theorem f10_beside {k : zK} {c d : Nat} {M : zM} (hc : c < 256) (hd : d < 4) : f_X10_beside k c d M = some (zbs c d) := by
  unfold f_X10_beside zbs zgd zlt zbr
  have h1 : (0:Int) ≤ c ∧ (c:Int) ≤ 2147483647 := by omega
  have h2 : zr (d : Int) := ⟨by omega, by omega⟩
  rw [if_pos h1, if_pos h2]
  rcases (show d = 0 ∨ d = 1 ∨ d = 2 ∨ d = 3 by omega) with rfl | rfl | rfl | rfl
  all_goals simp
  all_goals repeat' split
  all_goals first | rfl | omega | (simp; omega)
theorem f11_beside {k : zK} {c d : Nat} {M : zM} (hc : c < 256) (hd : d < 4) : f_X11_beside k c d M = some (zbs c (zbw d)) := by
  unfold f_X11_beside zbs zbw zgd zbr
  have h1 : (0:Int) ≤ c ∧ (c:Int) ≤ 2147483647 := by omega
  rw [if_pos h1]
  rcases (show d = 0 ∨ d = 1 ∨ d = 2 ∨ d = 3 by omega) with rfl | rfl | rfl | rfl
  all_goals simp
  all_goals repeat' split
  all_goals first | rfl | omega | (simp; omega)

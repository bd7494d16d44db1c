/-! small ones -/
theorem f10_isCell {k : zK} {c : Int} {M : zM} (h : zr c) : f_X10_isCell k c M = some (if 0 ≤ c ∧ c < 256 then 1 else 0) := by
  unfold f_X10_isCell zbr
  simp only [h, true_and, and_self, if_true, zr, and_true]
  repeat' split
  all_goals first | rfl | omega
theorem f11_isCell {k : zK} {c : Int} {M : zM} (h : zr c) : f_X11_isCell k c M = some (if 0 ≤ c ∧ c < 256 then 1 else 0) := by
  unfold f_X11_isCell zbr
  repeat' split
  all_goals first | rfl | omega
theorem f10_isAge {k : zK} {c : Int} {M : zM} (h : zr c) : f_X10_isAge k c M = some (if 0 ≤ c ∧ c < 100 then 1 else 0) := by
  unfold f_X10_isAge zbr
  repeat' split
  all_goals first | rfl | omega
theorem f11_isAge {k : zK} {c : Int} {M : zM} (h : zr c) : f_X11_isAge k c M = some (if 0 ≤ c ∧ c < 100 then 1 else 0) := by
  unfold f_X11_isAge zbr
  repeat' split
  all_goals first | rfl | omega
theorem f10_isHeight {k : zK} {c : Int} {M : zM} (h : zr c) : f_X10_isHeight k c M = some (if 0 ≤ c ∧ c ≤ 99 then 1 else 0) := by
  unfold f_X10_isHeight zbr
  repeat' split
  all_goals first | rfl | omega
theorem f10_isKind {k : zK} {c : Int} {M : zM} (h : zr c) : f_X10_isKind k c M = some (if 0 ≤ c ∧ c < 16 then 1 else 0) := by
  unfold f_X10_isKind zbr
  repeat' split
  all_goals first | rfl | omega
theorem f10_isPart {k : zK} {c : Int} {M : zM} (h : zr c) : f_X10_isPart k c M = some (if c = 0 ∨ c = 1 then 1 else 0) := by
  unfold f_X10_isPart zbr
  repeat' split
  all_goals first | rfl | omega
theorem f10_isWave {k : zK} {a b : Int} {M : zM} (h : zr a) (h' : zr b) : f_X10_isWave k a b M = some (if 1 ≤ a ∧ a ≤ 99 ∧ 0 ≤ b ∧ b ≤ 20 then 1 else 0) := by
  unfold f_X10_isWave zbr
  repeat' split
  all_goals first | rfl | omega
theorem f11_within {k : zK} {a b c : Int} {M : zM} (ha : zr a) (hb : zr b) (hc : zr c) : f_X11_within k a b c M = some (if b ≤ a ∧ a ≤ c then 1 else 0) := by
  unfold f_X11_within zbr
  repeat' split
  all_goals first | rfl | omega
theorem f10_areAges {k : zK} {a b : Int} {M : zM} (ha : zr a) (hb : zr b) : f_X10_areAges k a b M = some (if 0 ≤ a ∧ b < 100 ∧ a ≤ b then 1 else 0) := by
  unfold f_X10_areAges
  rw [f10_isAge ha, f10_isAge hb]
  simp only [zb1_some]
  unfold zbr
  repeat' split
  all_goals first | rfl | omega
theorem f11_areAges {k : zK} {a b : Int} {M : zM} (ha : zr a) (hb : zr b) : f_X11_areAges k a b M = some (if 0 ≤ a ∧ b < 100 ∧ a ≤ b then 1 else 0) := by
  unfold f_X11_areAges
  rw [f11_isAge ha, f11_isAge hb]
  simp only [zb1_some]
  unfold zbr
  repeat' split
  all_goals first | rfl | omega
/-- the neighbour to a side, as the class counts sides: north, west, east, south -/
def zbs (c : Nat) (d : Nat) : Int := if d = 0 then (if c < 16 then -1 else c - 16) else if d = 1 then (if c % 16 = 0 then -1 else c - 1) else if d = 2 then (if c % 16 = 15 then -1 else c + 1) else (if 240 ≤ c then -1 else c + 16)
theorem zbs_r {c d : Nat} (hc : c < 256) : -1 ≤ zbs c d ∧ zbs c d < 256 := by
  unfold zbs
  repeat' split
  all_goals omega
/-- as the reference counts them: west, east, north, south -/
def zbw (d : Nat) : Nat := if d = 0 then 1 else if d = 1 then 2 else if d = 2 then 0 else 3
theorem f10_beside {k : zK} {c d : Int} {M : zM} (hc : 0 ≤ c ∧ c < 256) (hd : 0 ≤ d ∧ d < 4) : f_X10_beside k c d M = some (zbs c.toNat d.toNat) := by
  obtain ⟨n, rfl⟩ : ∃ n : Nat, c = n := ⟨c.toNat, by omega⟩
  have h1 : (0:Int) ≤ n ∧ (n:Int) ≤ 2147483647 := by omega
  have h2 : zr d := ⟨by omega, by omega⟩
  simp only [f_X10_beside, zbs, zgd, zlt, zbr, if_pos h1, if_pos h2, Int.toNat_natCast]
  rcases (show d = 0 ∨ d = 1 ∨ d = 2 ∨ d = 3 by omega) with rfl | rfl | rfl | rfl
  all_goals simp
  all_goals repeat' split
  all_goals first | rfl | omega | (simp; omega)
theorem f11_beside {k : zK} {c d : Int} {M : zM} (hc : 0 ≤ c ∧ c < 256) (hd : 0 ≤ d ∧ d < 4) : f_X11_beside k c d M = some (zbs c.toNat (zbw d.toNat)) := by
  obtain ⟨n, rfl⟩ : ∃ n : Nat, c = n := ⟨c.toNat, by omega⟩
  have h1 : (0:Int) ≤ n ∧ (n:Int) ≤ 2147483647 := by omega
  simp only [f_X11_beside, zbs, zbw, zgd, zlt, zbr, if_pos h1, Int.toNat_natCast]
  rcases (show d = 0 ∨ d = 1 ∨ d = 2 ∨ d = 3 by omega) with rfl | rfl | rfl | rfl
  all_goals simp
  all_goals repeat' split
  all_goals first | rfl | omega | (simp; omega)

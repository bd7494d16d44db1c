/-! feed -/
theorem z_byte {a : Int} {s : Nat} (hs : s = 0 ∨ s = 8 ∨ s = 16 ∨ s = 24) : zo_and (zo_ushr a (s : Int)) 255 = zo_i2b (zo_i2b (zo_shr a (s : Int))) % 256 := by
  unfold zo_and zo_ushr zo_i2b zo_shr
  rw [Int32.ofInt_toInt, Int32.ofInt_toInt, Int32.ofInt_toInt]
  generalize hX : BitVec.ofInt 32 a = X
  have h1 := BitVec.toInt_eq_toNat_cond X
  have hlt := X.isLt
  have r : ∀ S : Int32, ((S.toInt8.toInt32).toInt8.toInt32).toInt % 256 = S.toInt % 256 := by
    intro S
    have b : ∀ x : Int, (x.bmod (2 ^ 8)) % 256 = x % 256 := fun x => by
      rw [Int.bmod_def]
      split <;> omega
    rw [Int8.toInt_toInt32, Int32.toInt_toInt8, Int8.toInt_toInt32, Int32.toInt_toInt8, b, b]
  rw [r]
  have l : ∀ U : Int32, (U &&& Int32.ofInt 255).toInt = ((U.toBitVec.toNat % 256 : Nat) : Int) := by
    intro U
    have e : (U &&& Int32.ofInt 255).toInt = (U.toBitVec &&& 255#32).toInt := rfl
    have e2 : (U.toBitVec &&& 255#32).toNat = U.toBitVec.toNat % 256 := by
      rw [BitVec.toNat_and]
      exact Nat.and_two_pow_sub_one_eq_mod _ 8
    rw [e, BitVec.toInt_eq_toNat_of_lt (by rw [e2]; omega), e2]
  rw [l]
  have k : ∀ n : Nat, n < 32 → ((Int32.ofInt a).toUInt32 >>> ((Int32.ofInt (n : Int)).toUInt32 &&& Int32.toUInt32 31)).toInt32.toBitVec.toNat = X.toNat / 2 ^ n := by
    intro n hn
    have e : ∀ n : Nat, n < 32 → ((Int32.ofInt (n : Int)).toUInt32 &&& Int32.toUInt32 31).toNat = n := by decide
    show ((Int32.ofInt a).toUInt32 >>> ((Int32.ofInt (n : Int)).toUInt32 &&& Int32.toUInt32 31)).toNat = _
    rw [UInt32.toNat_shiftRight, e n hn, Nat.mod_eq_of_lt hn, Nat.shiftRight_eq_div_pow, ← hX]
    rfl
  have m : ∀ n : Nat, n < 32 → (Int32.ofInt a >>> (Int32.ofInt (n : Int) &&& 31)).toInt = X.toInt / 2 ^ n := by
    intro n hn
    have e : ∀ n : Nat, n < 32 → ((Int32.ofInt (n : Int) &&& 31).toBitVec.smod 32).toNat = n := by decide
    show (Int32.ofInt a >>> (Int32.ofInt (n : Int) &&& 31)).toBitVec.toInt = _
    rw [Int32.toBitVec_shiftRight, BitVec.sshiftRight', e n hn, BitVec.toInt_sshiftRight, Int.shiftRight_eq_div_pow, ← hX]
    rfl
  rw [k s (by omega), m s (by omega)]
  rcases hs with rfl | rfl | rfl | rfl <;> (simp only [Nat.reducePow, Int.reducePow]; split at h1 <;> omega)

/-- bytes w put down from n on, and counted -/
def zTp (q a b n : Nat) (w : Nat → Int) (M : zM) : Nat → zM
  | 0 => M
  | j + 1 => zst (zst (zTp q a b n w M j) q (n + j) (w j)) a b ((n : Int) + ((j + 1 : Nat) : Int))
theorem zTp_s {q a b n : Nat} {w : Nat → Int} {M : zM} {j : Nat} : zTp q a b n w M (j + 1) = zst (zst (zTp q a b n w M j) q (n + j) (w j)) a b ((n : Int) + ((j + 1 : Nat) : Int)) := rfl
theorem zTp_n {q a b n : Nat} {w : Nat → Int} {M : zM} {j : Nat} (h : M a b = (n : Int)) : zTp q a b n w M j a b = (n : Int) + (j : Int) := by
  cases j with
  | zero => show M a b = _; omega
  | succ j => rw [zTp_s, zst_eq]
theorem zTp_add {q a b n : Nat} {w : Nat → Int} {M : zM} {j : Nat} : ∀ k, zTp q a b n w M (j + k) = zTp q a b (n + j) (fun x => w (j + x)) (zTp q a b n w M j) k := by
  intro k
  induction k with
  | zero => rfl
  | succ k ih =>
    rw [show j + (k + 1) = (j + k) + 1 by omega, zTp_s, zTp_s, ih, show n + (j + k) = n + j + k by omega, show (n : Int) + ((j + k + 1 : Nat) : Int) = ((n + j : Nat) : Int) + ((k + 1 : Nat) : Int) by omega]
theorem zTp_congr {q a b n : Nat} {w w' : Nat → Int} {M : zM} : ∀ j, (∀ x, x < j → w x = w' x) → zTp q a b n w M j = zTp q a b n w' M j := by
  intro j
  induction j with
  | zero => intro _; rfl
  | succ j ih => intro h; rw [zTp_s, zTp_s, ih (fun x hx => h x (by omega)), h j (by omega)]
theorem zTp_fr {q a b n : Nat} {w : Nat → Int} {M : zM} {p : Nat} (h : p ≠ q) (h' : p ≠ a) : ∀ j, zTp q a b n w M j p = M p := by
  intro j
  induction j with
  | zero => rfl
  | succ j ih => rw [zTp_s, zst_ne h', zst_ne h, ih]
theorem zTp_a {q a b n : Nat} {w : Nat → Int} {M : zM} {x : Nat} (h : a ≠ q) (h' : x ≠ b) : ∀ j, zTp q a b n w M j a x = M a x := by
  intro j
  induction j with
  | zero => rfl
  | succ j ih => rw [zTp_s, zst_ns h', zst_ne h, ih]
theorem zTp_q {q a b n : Nat} {w : Nat → Int} {M : zM} {x : Nat} (h : q ≠ a) : ∀ j, zTp q a b n w M j q x = if n ≤ x ∧ x < n + j then w (x - n) else M q x := by
  intro j
  induction j with
  | zero => rw [if_neg (by omega)]; rfl
  | succ j ih =>
    rw [zTp_s, zst_ne h]
    by_cases hx : x = n + j
    · subst hx
      rw [zst_eq, if_pos (by omega), show n + j - n = j by omega]
    · rw [zst_ns hx, ih]
      by_cases hc : n ≤ x ∧ x < n + j
      · rw [if_pos hc, if_pos (by omega)]
      · rw [if_neg hc, if_neg (by omega)]
def sBt (p : Int) (b : Nat) : Int := zo_and (zo_ushr p ((24 - 8 * b : Nat) : Int)) 255
theorem g6_put {k : zK} {p : Int} {M : zM} {n : Nat} (hn : M 2 1 = (n : Int)) (hn' : n + 4 ≤ 700) : g_X6_put k p M = some (zTp 3 2 1 n (sBt p) M 4) := by
  unfold g_X6_put
  have h : zw2 (gb_X6_put_3 k p) zfu 24 M = some (zTp 3 2 1 n (sBt p) M 4) := by
    unfold zw2
    refine zO_up (F := fun t => gb_X6_put_3 k p t.1 t.2) (fun j => (24 - 8 * (j : Int), zTp 3 2 1 n (sBt p) M j)) 4 ?_ ?_ (by omega) 0 (by omega)
    · intro j hj
      have e := zTp_n (q := 3) (w := sBt p) (j := j) hn
      apply zO_get
      dsimp only
      rw [gb_X6_put_3]
      generalize hB : zTp 3 2 1 n (sBt p) M j = B at *
      refine zO_brn ⟨by omega, by omega⟩ ⟨by omega, by omega⟩ (by omega) (zO_brn ⟨by omega, by omega⟩ ⟨by omega, by omega⟩ (by omega) (zO_gd (by omega) (zO_lt (zO_lt (zO_lt (zO_some ?_))))))
      rw [zTp_s, hB, e, show ((n : Int) + (j : Int)).toNat = n + j by omega, zst_ne (by decide), e]
      unfold sBt
      rw [show (24 : Int) - 8 * (j : Int) = ((24 - 8 * j : Nat) : Int) by omega, show ((24 - 8 * j : Nat) : Int) + -8 = 24 - 8 * ((j + 1 : Nat) : Int) by omega, show (n : Int) + (j : Int) + 1 = (n : Int) + ((j + 1 : Nat) : Int) by omega]
    · apply zO_get
      dsimp only
      rw [gb_X6_put_3]
      exact zO_brp ⟨by omega, by omega⟩ ⟨by omega, by omega⟩ (by omega) (zO_some rfl)
  exact zO_get (zO_b1e h (zO_some rfl))

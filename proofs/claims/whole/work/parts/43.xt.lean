/-! a world with one object more -/
def zxt (w : zW) (r : Nat) (kd : Nat × Nat × (Nat → Nat)) (a : Nat) : zW := ((fun q => if q = r then kd else w.1 q), (fun q => if q = r then a else w.2.1 q), w.2.2)
def zkx (k : zK) (r : Nat) (kd : Nat × Nat × (Nat → Nat)) : zK := fun q => if q = r then kd else k q
/-- none of the references that may change goes to r -/
abbrev zNr (M : zM) (r : Nat) : Prop := (M 1 10).toNat ≠ r ∧ (M 1 11).toNat ≠ r ∧ (M 20 0).toNat ≠ r ∧ (M 20 1).toNat ≠ r ∧ (M 20 2).toNat ≠ r
theorem zft3a : ∀ c, c < 12 → ∀ s, s < znf c → (zft c s = 0 ∨ zft c s = 1 ∨ zft c s = 2 ∨ (c = 10 ∧ (s = 10 ∨ s = 11))) := by decide +kernel
theorem zft3 (c : Nat) (hc : c < 12) (s : Nat) (hs : s < znf c) (h0 : zft c s ≠ 0) (h1 : zft c s ≠ 1) (h2 : zft c s ≠ 2) : c = 10 ∧ (s = 10 ∨ s = 11) := by
  rcases zft3a c hc s hs with h | h | h | h
  · exact absurd h h0
  · exact absurd h h1
  · exact absurd h h2
  · exact h
theorem zK_tag {i : Nat} (hi : i ≤ 3) {q t : Nat} (h : ztag (zKn i) q = t) (ht : t ≠ 0) : q < 177 ∧ (zKL.getD q (0, 0, [])).1 = t ∧ q < 129 + 16 * i := by
  unfold ztag zKn at h
  rcases Nat.lt_or_ge q (129 + 16 * i) with hq | hq
  · rw [if_pos hq] at h
    exact ⟨by omega, h, hq⟩
  · rw [if_neg (by omega)] at h
    exact absurd h.symm ht
theorem zK_11c : ∀ q, q < 177 → (zKL.getD q (0, 0, [])).1 = 11 → q = 1 := by decide +kernel
theorem zK_24c : ∀ q, q < 177 → (zKL.getD q (0, 0, [])).1 = 24 → q = 20 := by decide +kernel
theorem arrV_congr {c : ClassId} {N : Nat} {f g : Nat → Value} (h : ∀ j, j < N → f j = g j) : arrV c N f = arrV c N g := by
  unfold arrV
  congr 2
  funext j
  exact h j.val j.isLt
theorem zgt_pos : ∀ c, c < 12 → ∀ s, s < znf c → zft c s = 2 → zgt c s ≠ 0 := by decide +kernel
section zXt
variable {w : zW} {M : zM} {H : Heap} {r a i : Nat} {kd : Nat × Nat × (Nat → Nat)}
theorem zxt_fv (hk : w.1 = zKn i) (hi : i ≤ 3) (hr : ztag w.1 r = 0) (hN : zNr M r) {q c s : Nat} (hq : ztag w.1 q = c + 1) (hc : c < 12) (hs : s < znf c) : zfv (zxt w r kd a) M q c s = zfv w M q c s := by
  have hqr : q ≠ r := fun e => by rw [e, hr] at hq; omega
  unfold zfv
  split
  · rfl
  · rfl
  · rename_i h2
    have hT := zTyn hi
    rw [← hk] at hT
    have ht := (hT.2 q c s hq hs h2).1
    have hz : zfr (zxt w r kd a).1 q s = zfr w.1 q s := by unfold zfr zxt; simp [hqr]
    have hne : zfr w.1 q s ≠ r := fun e => by rw [e, hr] at ht; exact zgt_pos c hc s hs h2 ht.symm
    rw [hz]
    unfold rn zxt
    simp [hne]
  · rename_i h0 h1 h2
    obtain ⟨rfl, h10⟩ := zft3 c hc s hs h0 h1 h2
    have hq1 : q = 1 := by
      rw [hk] at hq
      obtain ⟨p1, p2, -⟩ := zK_tag hi hq (by decide)
      exact zK_11c q p1 p2
    have hne : (M q s).toNat ≠ r := by
      subst hq1
      rcases h10 with rfl | rfl
      · exact hN.1
      · exact hN.2.1
    unfold rv zxt
    simp [hne]
theorem zxt_av (hk : w.1 = zKn i) (hi : i ≤ 3) (hN : zNr M r) {q t : Nat} (hq : ztag w.1 q = t) (ht : 12 < t) {j : Nat} (hj : j < zlen w.1 q) : zav (zxt w r kd a) M q t j = zav w M q t j := by
  unfold zav
  split
  · rfl
  · split
    · rename_i h24
      subst h24
      have hqI : q = 20 := by
        rw [hk] at hq
        obtain ⟨p1, p2, -⟩ := zK_tag hi hq (by decide)
        exact zK_24c q p1 p2
      subst hqI
      have hl : zlen w.1 20 = 3 := by
        rw [hk]
        unfold zlen zKn
        rw [if_pos (by omega)]
        rfl
      have hne : (M 20 j).toNat ≠ r := by
        rcases (show j = 0 ∨ j = 1 ∨ j = 2 by omega) with rfl | rfl | rfl
        · exact hN.2.2.1
        · exact hN.2.2.2.1
        · exact hN.2.2.2.2
      unfold rv zxt
      simp [hne]
    · rfl
/-- an old cell is as well in the one world as in the other -/
theorem zxt_ok (hk : w.1 = zKn i) (hi : i ≤ 3) (hr : ztag w.1 r = 0) (hN : zNr M r) {q : Nat} (hq : ztag w.1 q ≠ 0) : zok (zxt w r kd a) M H q ↔ zok w M H q := by
  have hqr : q ≠ r := fun e => hq (by rw [e]; exact hr)
  have e1 : ztag (zxt w r kd a).1 q = ztag w.1 q := by unfold ztag zxt; simp [hqr]
  have e2 : zlen (zxt w r kd a).1 q = zlen w.1 q := by unfold zlen zxt; simp [hqr]
  have e3 : (zxt w r kd a).2.1 q = w.2.1 q := by unfold zxt; simp [hqr]
  have e4 : (zxt w r kd a).2.2 = w.2.2 := rfl
  rcases Nat.lt_or_ge 12 (ztag w.1 q) with h | h
  · constructor
    · intro hz
      have := zok_arr hz e1 h
      refine zok_arr' rfl h ?_
      rw [e3, e2, e4] at this
      rw [this]
      congr 1
      exact arrV_congr (fun j hj => zxt_av hk hi hN rfl h hj)
    · intro hz
      have := zok_arr hz rfl h
      refine zok_arr' e1 h ?_
      rw [e3, e2, e4, this]
      congr 1
      exact arrV_congr (fun j hj => (zxt_av hk hi hN rfl h hj).symm)
  · obtain ⟨c, hc⟩ : ∃ c, ztag w.1 q = c + 1 := ⟨ztag w.1 q - 1, by omega⟩
    have hc12 : c < 12 := by omega
    constructor
    · intro hz
      have := zok_obj hz (e1.trans hc) hc12
      rw [e3, e4] at this
      exact zok_obj' hc hc12 (this.to (fun s hs => zxt_fv hk hi hr hN hc hc12 hs))
    · intro hz
      have := zok_obj hz hc hc12
      refine zok_obj' (e1.trans hc) hc12 ?_
      rw [e3, e4]
      exact this.to (fun s hs => (zxt_fv hk hi hr hN hc hc12 hs).symm)
end zXt

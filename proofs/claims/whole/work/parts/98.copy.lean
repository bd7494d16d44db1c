/-! what is told, copied -/
def zol (n : Nat) : Nat := if n ≤ 2 ∨ 14 ≤ n then 256 else if n ≤ 4 then 16 else if n ≤ 8 then 60 else if n = 9 then 10 else 40
theorem zTo.cp {T b T' b' : Nat} {M M' : zM} (h : zTo T b M) (h1 : ∀ n x, 1 ≤ n → n ≤ 15 → x < zol n → M' (T' + n) x = M (T + n) x) (h2 : ∀ x, 15 ≤ x → x ≤ 19 → M' T' x = M T x) (h3 : ∀ q x, 78 ≤ q → q ≤ 96 → x < zof q → M' q (zof q * b' + x) = M q (zof q * b + x)) : zTo T' b' M' := by
  have r1 : ∀ q, 78 ≤ q → q ≤ 81 → M' q b' = M q b := fun q x y => by
    have := h3 q 0 x (by omega) (by unfold zof; rw [if_pos y]; omega)
    unfold zof at this
    rw [if_pos y, Nat.one_mul, Nat.one_mul] at this
    exact this
  have r2 : ∀ q c, 82 ≤ q → q ≤ 85 → c < 256 → M' q (256 * b' + c) = M q (256 * b + c) := fun q c x y hc => by
    have e : zof q = 256 := by unfold zof; rw [if_neg (by omega), if_pos y]
    have := h3 q c (by omega) (by omega) (by omega)
    rw [e] at this
    exact this
  have r3 : ∀ q d, q = 86 ∨ q = 95 → d < 80 → M' q (80 * b' + d) = M q (80 * b + d) := fun q c x hc => by
    have e : zof q = 80 := by unfold zof; rw [if_neg (by omega), if_neg (by omega), if_pos x]
    have := h3 q c (by omega) (by omega) (by omega)
    rw [e] at this
    exact this
  have r4 : ∀ q d, 87 ≤ q → q ≤ 90 → d < 60 → M' q (60 * b' + d) = M q (60 * b + d) := fun q c x y hc => by
    have e : zof q = 60 := by unfold zof; rw [if_neg (by omega), if_neg (by omega), if_neg (by omega), if_pos y]
    have := h3 q c (by omega) (by omega) (by omega)
    rw [e] at this
    exact this
  have r5 : ∀ d, d < 10 → M' 91 (10 * b' + d) = M 91 (10 * b + d) := fun d hd => h3 91 d (by omega) (by omega) hd
  have r6 : ∀ q d, (92 ≤ q ∧ q ≤ 94) ∨ q = 96 → d < 40 → M' q (40 * b' + d) = M q (40 * b + d) := fun q c x hc => by
    have e : zof q = 40 := by unfold zof; rw [if_neg (by omega), if_neg (by omega), if_neg (by omega), if_neg (by omega), if_neg (by omega)]
    have := h3 q c (by omega) (by omega) (by omega)
    rw [e] at this
    exact this
  obtain ⟨a1, a2, a3, a4, a5, a6, a7, a8, a9, b1, b2, b3, b4, b5⟩ := h
  have e78 := r1 78 (by omega) (by omega)
  refine ⟨?_, ?_, ?_, ?_, ?_, ?_, ?_, ?_, ?_, ?_, ?_, ?_, ?_, ?_⟩
  · intro c hc
    rw [h1 1 c (by omega) (by omega) hc, r2 82 c (by omega) (by omega) hc]
    exact a1 c hc
  · intro c hc
    rw [h1 14 c (by omega) (by omega) hc, r2 83 c (by omega) (by omega) hc]
    exact a2 c hc
  · intro c hc
    rw [h1 2 c (by omega) (by omega) hc, r2 84 c (by omega) (by omega) hc]
    exact a3 c hc
  · intro c hc
    rw [h1 15 c (by omega) (by omega) hc, r2 85 c (by omega) (by omega) hc]
    exact a4 c hc
  · rw [h2 15 (by omega) (by omega), zsum_congr (g := fun c => if M (T + 15) c < 0 then 0 else 1) (fun c hc => by rw [h1 15 c (by omega) (by omega) hc])]
    exact a5
  · rw [h2 16 (by omega) (by omega), e78]
    exact a6
  · intro d hd
    rw [r3 86 d (by omega) hd, r3 95 d (by omega) hd]
    exact a7 d hd
  · intro k hk
    have hn : (M 78 b).toNat ≤ 80 := by omega
    have s1 : zsum (M 78 b).toNat (fun d => if M' 86 (80 * b' + d) = (k : Int) then 1 else 0) = zsum (M 78 b).toNat (fun d => if M 86 (80 * b + d) = (k : Int) then 1 else 0) := zsum_congr (fun d hd => by rw [r3 86 d (by omega) (by omega)])
    have s2 : zsum (M 78 b).toNat (fun d => if M' 86 (80 * b' + d) = (k : Int) then M' 95 (80 * b' + d) else 0) = zsum (M 78 b).toNat (fun d => if M 86 (80 * b + d) = (k : Int) then M 95 (80 * b + d) else 0) := zsum_congr (fun d hd => by rw [r3 86 d (by omega) (by omega), r3 95 d (by omega) (by omega)])
    rw [h1 3 k (by omega) (by omega) hk, h1 4 k (by omega) (by omega) hk, e78, s1, s2]
    exact a8 k hk
  · rw [h2 17 (by omega) (by omega), r1 79 (by omega) (by omega)]
    exact a9
  · intro f hf
    rw [h1 5 f (by omega) (by omega) hf, h1 6 f (by omega) (by omega) hf, h1 7 f (by omega) (by omega) hf, h1 8 f (by omega) (by omega) hf, r4 87 f (by omega) (by omega) hf, r4 88 f (by omega) (by omega) hf, r4 89 f (by omega) (by omega) hf, r4 90 f (by omega) (by omega) hf]
    exact b1 f hf
  · rw [h2 18 (by omega) (by omega), r1 80 (by omega) (by omega)]
    exact b2
  · intro f hf
    rw [h1 9 f (by omega) (by omega) hf, r5 f hf]
    exact b3 f hf
  · rw [h2 19 (by omega) (by omega), r1 81 (by omega) (by omega)]
    exact b4
  · intro f hf
    rw [h1 10 f (by omega) (by omega) hf, h1 11 f (by omega) (by omega) hf, h1 12 f (by omega) (by omega) hf, h1 13 f (by omega) (by omega) hf, r6 92 f (by omega) hf, r6 93 f (by omega) hf, r6 94 f (by omega) hf, r6 96 f (by omega) hf]
    exact b5 f hf
theorem zcp_ne {M : zM} {r q n a : Nat} (h : a ≠ q) : zcp M r q n a = M a := by
  funext b
  unfold zcp
  rw [if_neg (fun h' => h h'.1)]
theorem zcp_in {M : zM} {r q n b : Nat} (h : b < n) : zcp M r q n q b = M r b := by
  unfold zcp
  rw [if_pos ⟨rfl, h⟩]
/-- where a Told's rows lie -/
def zTr (i T : Nat) : Prop := zfr (zKn i) T 0 = T + 1 ∧ zfr (zKn i) T 1 = T + 14 ∧ zfr (zKn i) T 2 = T + 2 ∧ zfr (zKn i) T 3 = T + 15 ∧ zfr (zKn i) T 4 = T + 3 ∧ zfr (zKn i) T 5 = T + 4 ∧ zfr (zKn i) T 6 = T + 5 ∧ zfr (zKn i) T 7 = T + 6 ∧ zfr (zKn i) T 8 = T + 7 ∧ zfr (zKn i) T 9 = T + 8 ∧ zfr (zKn i) T 10 = T + 9 ∧ zfr (zKn i) T 11 = T + 10 ∧ zfr (zKn i) T 12 = T + 11 ∧ zfr (zKn i) T 13 = T + 12 ∧ zfr (zKn i) T 14 = T + 13
theorem zTr_4 {i : Nat} : zTr i 4 := ⟨zq_4_0, zq_4_1, zq_4_2, zq_4_3, zq_4_4, zq_4_5, zq_4_6, zq_4_7, zq_4_8, zq_4_9, zq_4_10, zq_4_11, zq_4_12, zq_4_13, zq_4_14⟩
theorem zQi_ {i j s v : Nat} (h : j < i) (e : (zKL.getD (129 + 16 * j) (0, 0, [])).2.2.getD s 0 = v) : zfr (zKn i) (129 + 16 * j) s = v := by
  unfold zfr zKn
  rw [if_pos (by omega)]
  exact e
theorem zTr_i {i j : Nat} (h : j < i) (hi : i ≤ 3) : zTr i (129 + 16 * j) := by
  have hj : j = 0 ∨ j = 1 ∨ j = 2 := by omega
  rcases hj with rfl | rfl | rfl
  all_goals exact ⟨zQi_ h rfl, zQi_ h rfl, zQi_ h rfl, zQi_ h rfl, zQi_ h rfl, zQi_ h rfl, zQi_ h rfl, zQi_ h rfl, zQi_ h rfl, zQi_ h rfl, zQi_ h rfl, zQi_ h rfl, zQi_ h rfl, zQi_ h rfl, zQi_ h rfl⟩
theorem ztag_i {i j : Nat} (h : j < i) (hi : i ≤ 3) : ztag (zKn i) (129 + 16 * j) = 8 := by
  have hj : j = 0 ∨ j = 1 ∨ j = 2 := by omega
  unfold ztag zKn
  rw [if_pos (by omega)]
  rcases hj with rfl | rfl | rfl <;> rfl

/-! tried -/
def sOff (s m : Int) : Int := if m < 1 then 0 else s * (1000 - 1000 * s / (m + 1)) + (m - s) * (1000 * (s + 1) / (m + 1))
theorem f10_off {k : zK} {s m : Int} {M : zM} (h : 0 ≤ s ∧ s ≤ m ∧ m ≤ 80) : f_X10_offTogether k s m M = some (sOff s m) := by
  apply zO_get
  unfold f_X10_offTogether sOff
  by_cases h1 : 1 ≤ m
  · refine zO_brp ⟨by omega, by omega⟩ ⟨by omega, by omega⟩ h1 (zO_gd ⟨by omega, by omega⟩ (zO_lt (zO_gd ⟨by omega, by omega⟩ (zO_lt (zO_some ?_)))))
    rw [if_neg (by omega)]
  · refine zO_brn ⟨by omega, by omega⟩ ⟨by omega, by omega⟩ h1 (zO_some ?_)
    rw [if_pos (by omega)]
/-- one drowning's part -/
def sHd (M : zM) (A B : Int) (d : Nat) : Int := if M 95 d = 0 then B else A
theorem sHd_sum {M : zM} {A B : Int} {P : Nat → Prop} [DecidablePred P] : ∀ n : Nat, (∀ d, d < n → M 95 d = 0 ∨ M 95 d = 1) → zsum n (fun d => if P d then sHd M A B d else 0) = zsum n (fun d => if P d then M 95 d else 0) * A + (zsum n (fun d => if P d then 1 else 0) - zsum n (fun d => if P d then M 95 d else 0)) * B := by
  intro n
  induction n with
  | zero => intro _; simp [zsum]
  | succ n ih =>
    intro h
    rw [zsum_s, zsum_s, zsum_s, ih (fun d hd => h d (by omega))]
    have hn := h n (by omega)
    generalize zsum n (fun d => if P d then M 95 d else 0) = S
    generalize zsum n (fun d => if P d then (1 : Int) else 0) = N
    by_cases hp : P n
    · rw [if_pos hp, if_pos hp, if_pos hp]
      unfold sHd
      rcases hn with h0 | h0
      · rw [h0, if_pos rfl, Int.add_zero, show N + 1 - S = (N - S) + 1 by omega, Int.add_mul (N - S), Int.one_mul]
        omega
      · rw [h0, if_neg (by omega), show N + 1 - (S + 1) = N - S by omega, Int.add_mul S, Int.one_mul]
        omega
    · rw [if_neg hp, if_neg hp, if_neg hp, Int.add_zero, Int.add_zero, Int.add_zero]
theorem z_kinds {M : zM} {H : Nat → Nat → Int} {n : Nat} (h : ∀ d, d < n → 0 ≤ M 86 d ∧ M 86 d < 16) : zsum 16 (fun k => zsum n (fun d => if M 86 d = (k : Int) then H k d else 0)) = zsum n (fun d => H (M 86 d).toNat d) := by
  rw [zsum_swap]
  refine zsum_congr (fun d hd => ?_)
  have := h d hd
  rw [zsum_congr (g := fun k => if k = (M 86 d).toNat then H (M 86 d).toNat d else 0) (fun k hk => by
    by_cases e : M 86 d = (k : Int)
    · have e' : k = (M 86 d).toNat := by omega
      rw [if_pos e, if_pos e', ← e']
    · rw [if_neg e, if_neg (by omega)])]
  exact zsum_one (by omega)
def sAk (S N : Int) : Int := 1000 - 1000 * S / (N + 1)
def sBk2 (S N : Int) : Int := 1000 * (S + 1) / (N + 1)
def sTk (M : zM) (d : Nat) : Int := sHd M (sAk (M 8 (M 86 d).toNat) (M 7 (M 86 d).toNat)) (sBk2 (M 8 (M 86 d).toNat) (M 7 (M 86 d).toNat)) d
theorem sOff_k {i L n : Nat} {M : zM} {E : zE} (hs : zSt i L M E) (hn : M 78 0 = (n : Int)) {k : Nat} (hk : k < 16) : sOff (M 8 k) (M 7 k) = zsum n (fun d => if M 86 d = (k : Int) then sHd M (sAk (M 8 k) (M 7 k)) (sBk2 (M 8 k) (M 7 k)) d else 0) := by
  have hd := hs.2.2.1.2.2.2.2.2.2.1
  have hn80 := hs.2.2.1.2.2.2.2.2.1
  have h8 := hs.2.2.1.2.2.2.2.2.2.2.1 k hk
  simp only [Nat.mul_zero, Nat.zero_add, Nat.reduceAdd] at hd h8
  rw [hn, Int.toNat_natCast] at h8
  have hdr := hs.dry hk
  rw [sHd_sum n (fun d hd' => (hd d (by omega)).2.2), ← h8.1, ← h8.2]
  unfold sOff sAk sBk2
  by_cases h1 : M 7 k < 1
  · rw [if_pos h1, show M 8 k = 0 by omega, show M 7 k = 0 by omega]
    simp
  · rw [if_neg h1]
theorem sLu_d {M : zM} {kind : Int} {n d : Nat} (hd : d < n) (hk : kind < 0 ∨ M 86 d = kind) : sLu M kind (d : Int) n = sLu M kind (-1) n - M 95 d ∧ sLb2 M kind (d : Int) n = sLb2 M kind (-1) n - 1 := by
  unfold sLu sLb2
  constructor
  · rw [zsum_upd (n := n) (c := d) (f := fun x => if (x : Int) ≠ -1 ∧ (kind < 0 ∨ M 86 x = kind) then M 95 x else 0) (g := fun x => if (x : Int) ≠ (d : Int) ∧ (kind < 0 ∨ M 86 x = kind) then M 95 x else 0) hd (fun j hj hjd => by
      by_cases e : kind < 0 ∨ M 86 j = kind
      · rw [if_pos ⟨by omega, e⟩, if_pos ⟨by omega, e⟩]
      · rw [if_neg (fun h => e h.2), if_neg (fun h => e h.2)])]
    rw [if_pos ⟨by omega, hk⟩, if_neg (fun h => h.1 rfl)]
    omega
  · rw [zsum_upd (n := n) (c := d) (f := fun x => if (x : Int) ≠ -1 ∧ (kind < 0 ∨ M 86 x = kind) then 1 else 0) (g := fun x => if (x : Int) ≠ (d : Int) ∧ (kind < 0 ∨ M 86 x = kind) then 1 else 0) hd (fun j hj hjd => by
      by_cases e : kind < 0 ∨ M 86 j = kind
      · rw [if_pos ⟨by omega, e⟩, if_pos ⟨by omega, e⟩]
      · rw [if_neg (fun h => e h.2), if_neg (fun h => e h.2)])]
    rw [if_pos ⟨by omega, hk⟩, if_neg (fun h => h.1 rfl)]
    omega
theorem sLu_all {i L n : Nat} {M : zM} {E : zE} (hs : zSt i L M E) (hn : M 78 0 = (n : Int)) : sLu M (-1) (-1) n = zsum 16 (M 8) ∧ sLb2 M (-1) (-1) n = n ∧ 0 ≤ sLu M (-1) (-1) n ∧ sLu M (-1) (-1) n ≤ n := by
  have hd := hs.2.2.1.2.2.2.2.2.2.1
  have hn80 := hs.2.2.1.2.2.2.2.2.1
  simp only [Nat.mul_zero, Nat.zero_add, Nat.reduceAdd] at hd
  have e1 : sLu M (-1) (-1) n = zsum n (fun d => M 95 d) := zsum_congr (fun d hd' => if_pos ⟨by omega, Or.inl (by omega)⟩)
  have e2 : sLb2 M (-1) (-1) n = zsum n (fun _ => 1) := zsum_congr (fun d hd' => if_pos ⟨by omega, Or.inl (by omega)⟩)
  have e3 : ∀ m : Nat, zsum m (fun _ => (1 : Int)) = m := by
    intro m
    induction m with
    | zero => rfl
    | succ m ih => rw [zsum_s, ih]; omega
  have e4 : zsum 16 (M 8) = zsum 16 (fun k => zsum n (fun d => if M 86 d = (k : Int) then M 95 d else 0)) := zsum_congr (fun k hk => by
    have h8 := (hs.2.2.1.2.2.2.2.2.2.2.1 k hk).2
    simp only [Nat.mul_zero, Nat.zero_add, Nat.reduceAdd] at h8
    rw [hn, Int.toNat_natCast] at h8
    exact h8)
  have e5 := z_kinds (M := M) (H := fun _ d => M 95 d) (n := n) (fun d hd' => by have := hd d (by omega); omega)
  have e6 : 0 ≤ zsum n (fun d => M 95 d) := zsum_nn (fun d hd' => by have := (hd d (by omega)).2.2; omega)
  have e7 : zsum n (fun d => M 95 d) ≤ (n : Int) * 1 := zsum_le (fun d hd' => by have := (hd d (by omega)).2.2; omega)
  rw [e1, e2, e3, e4, e5]
  exact ⟨rfl, rfl, e6, by omega⟩
theorem r10_tried {i L n : Nat} {M : zM} {E : zE} {p1 : Int} (hs : zSt i L M E) (hn : M 78 0 = (n : Int)) : zw3 (gb_X10_tried_16 (zKn i) p1 M) zfu 0 0 0 = some (zsum 16 (fun k => sOff (M 8 k) (M 7 k)), zsum 16 (M 8)) := by
  unfold zw3
  refine zO_up (F := fun t => gb_X10_tried_16 (zKn i) p1 M t.1 t.2.1 t.2.2) (fun j => (zsum j (fun k => sOff (M 8 k) (M 7 k)), zsum j (M 8), (j : Int))) 16 ?_ ?_ (by omega) 0 (by omega)
  · intro j hj
    have hdr := hs.dry hj
    apply zO_get
    dsimp only
    rw [gb_X10_tried_16, zsum_s, zsum_s]
    simp only [Int.toNat_natCast]
    rw [show ((j + 1 : Nat) : Int) = (j : Int) + 1 by omega]
    exact zO_brn ⟨by omega, by omega⟩ ⟨by omega, by omega⟩ (by omega) (zO_gd (by omega) (zO_gd (by omega) (zO_b1e (f10_off hdr) (zO_lt (zO_gd (by omega) (zO_lt (zO_lt (zO_some rfl))))))))
  · apply zO_get
    dsimp only
    rw [gb_X10_tried_16]
    exact zO_brp ⟨by omega, by omega⟩ ⟨by omega, by omega⟩ (by omega) (zO_some rfl)
/-- the reference's part for one drowning -/
def sTd (M : zM) (p1 : Int) (n d : Nat) : Int := if p1 = 0 then sTk M d else sHd M (sAk (sLu M (-1) (-1) n) n) (sBk2 (sLu M (-1) (-1) n) n) d
theorem r11_tried {i L n : Nat} {M : zM} {E : zE} {p1 : Int} (hs : zSt i L M E) (hn : M 78 0 = (n : Int)) (hn' : n ≤ 80) (hp : p1 = 0 ∨ p1 = 1) : zO (zw3 (gb_X11_tried_15 (zKn i) p1) zfu 0 0 M) (fun r => r.1 = zsum n (sTd M p1 n) ∧ zQm M r.2) := by
  have hd := hs.2.2.1.2.2.2.2.2.2.1
  simp only [Nat.mul_zero, Nat.zero_add, Nat.reduceAdd] at hd
  unfold zw3
  refine zO_for (fun s => s.2.1) n (fun j s => s.1 = zsum j (sTd M p1 n) ∧ zQm M s.2.2 ∧ zFr [76] M s.2.2) ?_ ?_ (by omega) 0 (by omega) rfl ⟨rfl, zQm.rf, zFr_refl⟩
  · rintro j ⟨y, c, A⟩ hj hc ⟨h1, h2, h3⟩
    dsimp only at *
    subst hc
    have r78 : A 78 = M 78 := h3 78 (by decide)
    have r86 : A 86 = M 86 := h3 86 (by decide)
    have r95 : A 95 = M 95 := h3 95 (by decide)
    obtain ⟨d1, d2, d3⟩ := hd j (by omega)
    have hsA := hs.qm h2
    obtain ⟨kind, hk, hx, hz, S, N, hS, hN, hv, hr⟩ : ∃ kind : Int, (kind < 0 ∨ M 86 j = kind) ∧ zbr p1 0 (¬ p1 = 0) (some (-1)) (zgd (0 ≤ (j : Int) ∧ (j : Int) < 320) (some (A 86 (j : Int).toNat))) = some kind ∧ zr kind ∧ ∃ S N : Int, sLu M kind (-1) n = S ∧ sLb2 M kind (-1) n = N ∧ sTd M p1 n j = sHd M (sAk S N) (sBk2 S N) j ∧ (0 ≤ S ∧ S ≤ N ∧ N ≤ 80) := by
      rcases hp with rfl | rfl
      · refine ⟨M 86 j, Or.inr rfl, ?_, ⟨by omega, by omega⟩, M 8 (M 86 j).toNat, M 7 (M 86 j).toNat, ?_, ?_, ?_, hs.dry (by omega)⟩
        · apply zO_get
          refine zO_brn ⟨by omega, by omega⟩ ⟨by omega, by omega⟩ (by omega) (zO_gd (by omega) (zO_some ?_))
          rw [r86, Int.toNat_natCast]
        · have := (sLu_k hs (k := (M 86 j).toNat) (by omega)).1
          rw [hn, Int.toNat_natCast, show (((M 86 j).toNat : Nat) : Int) = M 86 j by omega] at this
          omega
        · have := (sLu_k hs (k := (M 86 j).toNat) (by omega)).2
          rw [hn, Int.toNat_natCast, show (((M 86 j).toNat : Nat) : Int) = M 86 j by omega] at this
          omega
        · unfold sTd
          rw [if_pos rfl]
          rfl
      · obtain ⟨_, q2, q3, q4⟩ := sLu_all hs hn
        refine ⟨-1, Or.inl (by omega), ?_, ⟨by omega, by omega⟩, sLu M (-1) (-1) n, n, rfl, q2, ?_, q3, q4, by omega⟩
        · apply zO_get
          exact zO_brp ⟨by omega, by omega⟩ ⟨by omega, by omega⟩ (by omega) (zO_some rfl)
        · unfold sTd
          rw [if_neg (by omega)]
    rw [gb_X11_tried_15]
    simp only [Int.toNat_zero, r78, hn]
    refine zO_gd (by omega) (zO_brn ⟨by omega, by omega⟩ ⟨by omega, by omega⟩ (by omega) (zO_b1e hx ?_))
    refine zO_b1q (g11_learn' hsA (kind := kind) (but := (j : Int)) hz ⟨by omega, by omega⟩) ?_
    rintro B ⟨B1, B2, B3, B4, B5⟩
    have b95 : B 95 = M 95 := by rw [B2 95 (by decide), r95]
    have l1 : sLu A kind (j : Int) (A 78 0).toNat = S - M 95 j := by
      rw [r78, hn, Int.toNat_natCast, ← hS, ← (sLu_d hj hk).1]
      unfold sLu
      rw [r86, r95]
    have l2 : sLb2 A kind (j : Int) (A 78 0).toNat = N - 1 := by
      rw [r78, hn, Int.toNat_natCast, ← hN, ← (sLu_d hj hk).2]
      unfold sLb2
      rw [r86]
    rw [l1] at B4
    rw [l2] at B5
    have fr : zFr [76] M B := fun q hq => by rw [B2 q hq, h3 q hq]
    refine zO_gd (by omega) ?_
    simp only [Int.toNat_natCast, b95]
    have hfin : ∀ v : Int, v = sTd M p1 n j → (y + v, (j : Int) + 1, B).1 = zsum (j + 1) (sTd M p1 n) := fun v e => by
      dsimp only
      rw [zsum_s, h1, e]
    rcases d3 with d3 | d3
    · refine zO_brp ⟨by omega, by omega⟩ ⟨by omega, by omega⟩ d3 (zO_gd ⟨by omega, by omega⟩ (zO_lt (zO_lt (zO_inl ⟨by dsimp only; omega, hfin _ ?_, h2.tr B1, fr⟩))))
      rw [hv, B4, B5, d3]
      unfold sHd sBk2
      rw [if_pos d3, show 1 + (S - 0) = S + 1 by omega, show 2 + (N - 1) = N + 1 by omega]
    · refine zO_brn ⟨by omega, by omega⟩ ⟨by omega, by omega⟩ (by omega) (zO_gd ⟨by omega, by omega⟩ (zO_lt (zO_lt (zO_inl ⟨by dsimp only; omega, hfin _ ?_, h2.tr B1, fr⟩))))
      rw [hv, B4, B5, d3]
      unfold sHd sAk
      rw [if_neg (by omega), show 1 + (S - 1) = S by omega, show 2 + (N - 1) = N + 1 by omega]
  · rintro ⟨y, c, A⟩ hc ⟨h1, h2, h3⟩
    dsimp only at *
    subst hc
    have r78 : A 78 = M 78 := h3 78 (by decide)
    rw [gb_X11_tried_15]
    simp only [Int.toNat_zero, r78, hn]
    exact zO_gd (by omega) (zO_brp ⟨by omega, by omega⟩ ⟨by omega, by omega⟩ (by omega) (zO_inr ⟨h1, h2⟩))
theorem sTd_sum {i L n : Nat} {M : zM} {E : zE} {p1 : Int} (hs : zSt i L M E) (hn : M 78 0 = (n : Int)) (hn' : n ≤ 80) (hp : p1 = 0 ∨ p1 = 1) : zsum n (sTd M p1 n) = if p1 = 0 then zsum 16 (fun k => sOff (M 8 k) (M 7 k)) else sOff (zsum 16 (M 8)) n := by
  have hd := hs.2.2.1.2.2.2.2.2.2.1
  simp only [Nat.mul_zero, Nat.zero_add, Nat.reduceAdd] at hd
  rcases hp with rfl | rfl
  · rw [if_pos rfl]
    rw [zsum_congr (n := 16) (g := fun k => zsum n (fun d => if M 86 d = (k : Int) then sHd M (sAk (M 8 k) (M 7 k)) (sBk2 (M 8 k) (M 7 k)) d else 0)) (fun k hk => sOff_k hs hn hk)]
    rw [z_kinds (M := M) (H := fun k d => sHd M (sAk (M 8 k) (M 7 k)) (sBk2 (M 8 k) (M 7 k)) d) (n := n) (fun d hd' => by have := hd d (by omega); omega)]
    exact zsum_congr (fun d _ => by unfold sTd; rw [if_pos rfl]; rfl)
  · rw [if_neg (by omega)]
    obtain ⟨q1, q2, q3, q4⟩ := sLu_all hs hn
    have e := sHd_sum (M := M) (A := sAk (sLu M (-1) (-1) n) n) (B := sBk2 (sLu M (-1) (-1) n) n) (P := fun d => (d : Int) ≠ -1 ∧ ((-1 : Int) < 0 ∨ M 86 d = -1)) n (fun d hd' => (hd d (by omega)).2.2)
    rw [zsum_congr (g := fun d => if (d : Int) ≠ -1 ∧ ((-1 : Int) < 0 ∨ M 86 d = -1) then sHd M (sAk (sLu M (-1) (-1) n) n) (sBk2 (sLu M (-1) (-1) n) n) d else 0) (fun d _ => by unfold sTd; rw [if_neg (by omega), if_pos ⟨by omega, Or.inl (by omega)⟩]), e]
    show sLu M (-1) (-1) n * _ + (sLb2 M (-1) (-1) n - sLu M (-1) (-1) n) * _ = _
    rw [q2, ← q1]
    unfold sOff sAk sBk2
    by_cases h1 : (n : Int) < 1
    · rw [if_pos h1, show sLu M (-1) (-1) n = 0 by omega, show (n : Int) = 0 by omega]
      simp
    · rw [if_neg h1]
theorem p_tried {i L : Nat} {M : zM} {E : zE} {p1 : Int} (hI : zInv i L M E) (h1 : zr p1) : zP1 i L E (g_X10_tried (zKn i) p1) (g_X11_tried (zKn i) p1) M := by
  obtain ⟨n, n1, n2, n3⟩ := hI.1.dryn
  by_cases hp : p1 = 0 ∨ p1 = 1
  · obtain ⟨tp, tp'⟩ := t_part (k := zKn i) (M := M) hp
    obtain ⟨q1, q2, q3, q4⟩ := sLu_all hI.1 n2
    refine zP1_of (if p1 = 0 then zsum 16 (fun k => sOff (M 8 k) (M 7 k)) else sOff (zsum 16 (M 8)) n) hI ?_ ?_
    · unfold g_X10_tried
      apply zO_get
      refine zO_b1e tp (zO_brp (by omega) (by omega) (by omega) (zO_b2 (zO_eq (r10_tried hI.1 n2) ?_)))
      dsimp only
      rcases hp with rfl | rfl
      · refine zO_brn (by omega) (by omega) (by omega) (zO_some ?_)
        rw [if_pos rfl]
      · refine zO_brp (by omega) (by omega) (by omega) (zO_b1e (a := sOff (zsum 16 (M 8)) n) ?_ (zO_some ?_))
        · rw [n1]
          exact f10_off ⟨by omega, by omega, by omega⟩
        · rw [if_neg (by omega)]
    · unfold g_X11_tried
      refine zO_b1e tp' (zO_brp (by omega) (by omega) (by omega) (zO_b2 (zO_mono (r11_tried hI.1 n2 n3 hp) ?_)))
      rintro ⟨x, A⟩ ⟨a1, a2⟩
      refine zO_some ⟨?_, a2⟩
      dsimp only at *
      rw [a1, sTd_sum hI.1 n2 n3 hp]
  · obtain ⟨tp, tp'⟩ := t_part_n (k := zKn i) (M := M) h1 hp
    refine zP1_of (-1) hI ?_ ?_
    · unfold g_X10_tried
      apply zO_get
      exact zO_b1e tp (zO_brn (by omega) (by omega) (by omega) (zO_some rfl))
    · unfold g_X11_tried
      exact zO_b1e tp' (zO_brn (by omega) (by omega) (by omega) (zO_some ⟨rfl, zQm.rf⟩))

/-! the world behind both constructors, by ids; images stand behind it, sixteen ids each -/
def zKL : List (Nat × Nat × List Nat) := [(0, 0, []),
  (11, 0, [2, 4, 20, 21, 24, 39, 43, 46, 50, 51, 0, 0, 0, 0, 0]),
  (7, 0, [3, 0, 0, 0, 0, 0, 0, 0]),
  (20, 700, []),
  (8, 0, [5, 18, 6, 19, 7, 8, 9, 10, 11, 12, 13, 14, 15, 16, 17, 0, 0, 0, 0, 0]),
  (20, 256, []),
  (20, 256, []),
  (20, 16, []),
  (20, 16, []),
  (20, 60, []),
  (20, 60, []),
  (20, 60, []),
  (20, 60, []),
  (20, 10, []),
  (20, 40, []),
  (20, 40, []),
  (20, 40, []),
  (20, 40, []),
  (20, 256, []),
  (20, 256, []),
  (24, 3, []),
  (9, 0, [22, 23, 24, 36, 37, 38, 0]),
  (21, 256, []),
  (20, 256, []),
  (3, 0, [25, 26, 27, 28, 29, 30, 31, 32, 33, 34, 35]),
  (20, 256, []),
  (20, 256, []),
  (20, 256, []),
  (20, 256, []),
  (20, 256, []),
  (20, 256, []),
  (20, 256, []),
  (20, 256, []),
  (20, 256, []),
  (20, 200, []),
  (20, 8, []),
  (20, 256, []),
  (20, 8, []),
  (20, 16, []),
  (5, 0, [40, 41, 42]),
  (20, 100, []),
  (22, 25600, []),
  (20, 100, []),
  (2, 0, [44, 45]),
  (21, 256, []),
  (20, 256, []),
  (10, 0, [47, 0, 48, 49, 0, 0, 0]),
  (20, 10, []),
  (20, 10, []),
  (23, 70, []),
  (6, 0, [0, 0]),
  (20, 3, []),
  (4, 0, [0, 0, 53, 54, 55, 56, 57, 0, 58, 59, 60, 61, 62, 0, 63]),
  (20, 40, []),
  (20, 40, []),
  (20, 40, []),
  (20, 40, []),
  (20, 700, []),
  (20, 100, []),
  (20, 100, []),
  (21, 100, []),
  (21, 100, []),
  (20, 100, []),
  (20, 3, []),
  (4, 0, [0, 0, 65, 66, 67, 68, 69, 0, 70, 71, 72, 73, 74, 0, 75]),
  (20, 40, []),
  (20, 40, []),
  (20, 40, []),
  (20, 40, []),
  (20, 700, []),
  (20, 100, []),
  (20, 100, []),
  (21, 100, []),
  (21, 100, []),
  (20, 100, []),
  (20, 3, []),
  (12, 0, [77, 78, 79, 80, 81, 82, 83, 84, 85, 86, 87, 88, 89, 90, 91, 92, 93, 94, 95, 96, 0, 97, 98, 99, 100, 101, 102, 103, 0, 104, 105, 106, 107, 108, 0, 0, 0, 0, 0, 0, 0, 0, 0, 109, 110, 0, 111, 112, 0, 0, 113, 114, 115, 116, 117, 118, 119, 120, 121, 0, 0, 0, 0, 0, 0, 122, 123, 124, 125, 126, 0, 127, 128]),
  (20, 3, []),
  (20, 4, []),
  (20, 4, []),
  (20, 4, []),
  (20, 4, []),
  (20, 1024, []),
  (20, 1024, []),
  (20, 1024, []),
  (20, 1024, []),
  (20, 320, []),
  (20, 240, []),
  (20, 240, []),
  (20, 240, []),
  (20, 240, []),
  (20, 40, []),
  (20, 160, []),
  (20, 160, []),
  (20, 160, []),
  (21, 320, []),
  (21, 160, []),
  (20, 2, []),
  (20, 80, []),
  (20, 80, []),
  (20, 80, []),
  (20, 80, []),
  (20, 80, []),
  (20, 80, []),
  (20, 2000, []),
  (20, 2000, []),
  (20, 2000, []),
  (20, 2000, []),
  (22, 700, []),
  (20, 12, []),
  (20, 12, []),
  (20, 7, []),
  (21, 300, []),
  (20, 256, []),
  (20, 256, []),
  (20, 256, []),
  (20, 256, []),
  (20, 256, []),
  (21, 256, []),
  (21, 256, []),
  (20, 256, []),
  (20, 256, []),
  (21, 256, []),
  (20, 10, []),
  (20, 10, []),
  (20, 10, []),
  (20, 256, []),
  (20, 16, []),
  (20, 16, []),
  (8, 0, [130, 143, 131, 144, 132, 133, 134, 135, 136, 137, 138, 139, 140, 141, 142, 0, 0, 0, 0, 0]),
  (20, 256, []),
  (20, 256, []),
  (20, 16, []),
  (20, 16, []),
  (20, 60, []),
  (20, 60, []),
  (20, 60, []),
  (20, 60, []),
  (20, 10, []),
  (20, 40, []),
  (20, 40, []),
  (20, 40, []),
  (20, 40, []),
  (20, 256, []),
  (20, 256, []),
  (8, 0, [146, 159, 147, 160, 148, 149, 150, 151, 152, 153, 154, 155, 156, 157, 158, 0, 0, 0, 0, 0]),
  (20, 256, []),
  (20, 256, []),
  (20, 16, []),
  (20, 16, []),
  (20, 60, []),
  (20, 60, []),
  (20, 60, []),
  (20, 60, []),
  (20, 10, []),
  (20, 40, []),
  (20, 40, []),
  (20, 40, []),
  (20, 40, []),
  (20, 256, []),
  (20, 256, []),
  (8, 0, [162, 175, 163, 176, 164, 165, 166, 167, 168, 169, 170, 171, 172, 173, 174, 0, 0, 0, 0, 0]),
  (20, 256, []),
  (20, 256, []),
  (20, 16, []),
  (20, 16, []),
  (20, 60, []),
  (20, 60, []),
  (20, 60, []),
  (20, 60, []),
  (20, 10, []),
  (20, 40, []),
  (20, 40, []),
  (20, 40, []),
  (20, 40, []),
  (20, 256, []),
  (20, 256, [])]
def zKn (i : Nat) : zK := fun r => if r < 129 + 16 * i then ((zKL.getD r (0, 0, [])).1, (zKL.getD r (0, 0, [])).2.1, fun s => (zKL.getD r (0, 0, [])).2.2.getD s 0) else (0, 0, fun _ => 0)
def zKend (r : Nat) : Nat := if r < 129 then 129 else 129 + 16 * ((r - 129) / 16 + 1)
def zKchk (r : Nat) : Bool := (zKL.getD r (0, 0, [])).1 == 0 || Nat.blt 12 (zKL.getD r (0, 0, [])).1 || (List.range (znf ((zKL.getD r (0, 0, [])).1 - 1))).all (fun s => !(zft ((zKL.getD r (0, 0, [])).1 - 1) s == 2) || (Nat.blt ((zKL.getD r (0, 0, [])).2.2.getD s 0) (zKend r) && ((zKL.getD ((zKL.getD r (0, 0, [])).2.2.getD s 0) (0, 0, [])).1 == zgt ((zKL.getD r (0, 0, [])).1 - 1) s && (zKL.getD ((zKL.getD r (0, 0, [])).2.2.getD s 0) (0, 0, [])).2.1 == zgl ((zKL.getD r (0, 0, [])).1 - 1) s)))
theorem zK_all : (List.range 177).all zKchk = true := by decide +kernel
theorem zK_chk {r c s : Nat} (hr : r < 177) (ht : (zKL.getD r (0, 0, [])).1 = c + 1) (hc : c < 12) (hs : s < znf c) (hf : zft c s = 2) : (zKL.getD r (0, 0, [])).2.2.getD s 0 < zKend r ∧ (zKL.getD ((zKL.getD r (0, 0, [])).2.2.getD s 0) (0, 0, [])).1 = zgt c s ∧ (zKL.getD ((zKL.getD r (0, 0, [])).2.2.getD s 0) (0, 0, [])).2.1 = zgl c s := by
  have h := List.all_eq_true.mp zK_all r (List.mem_range.mpr hr)
  unfold zKchk at h
  rw [ht, Nat.add_sub_cancel] at h
  simp only [Bool.or_eq_true, beq_iff_eq, Nat.blt_eq, List.all_eq_true, List.mem_range, Bool.and_eq_true, Bool.not_eq_true', beq_eq_false_iff_ne, ne_eq] at h
  rcases h with (h | h) | h
  · omega
  · omega
  · rcases h s hs with h | h
    · exact absurd hf h
    · exact h
theorem znf_big {c : Nat} (h : 12 ≤ c) : znf c = 0 := by
  unfold znf
  rw [List.getD_eq_getElem?_getD, List.getElem?_eq_none (by have : ztb.length = 12 := rfl; omega)]
  rfl
theorem zTyn {i : Nat} (hi : i ≤ 3) : zTy (zKn i) := by
  refine ⟨?_, ?_⟩
  · unfold ztag zKn
    rw [if_pos (by omega)]
    rfl
  · intro r c s hr hs hf
    have hb : r < 129 + 16 * i := by
      rcases Nat.lt_or_ge r (129 + 16 * i) with h | h
      · exact h
      · unfold ztag zKn at hr
        rw [if_neg (by omega)] at hr
        exact absurd hr (by simp)
    have ht : (zKL.getD r (0, 0, [])).1 = c + 1 := by
      unfold ztag zKn at hr
      rw [if_pos hb] at hr
      exact hr
    have hc : c < 12 := by
      rcases Nat.lt_or_ge c 12 with h | h
      · exact h
      · rw [znf_big h] at hs
        omega
    have h := zK_chk (by omega) ht hc hs hf
    have hz : zfr (zKn i) r s = (zKL.getD r (0, 0, [])).2.2.getD s 0 := by
      unfold zfr zKn
      rw [if_pos hb]
    have hlt : (zKL.getD r (0, 0, [])).2.2.getD s 0 < 129 + 16 * i := by
      have h1 := h.1
      unfold zKend at h1
      split at h1
      · omega
      · omega
    rw [hz]
    unfold ztag zlen zKn
    rw [if_pos hlt]
    exact ⟨h.2.1, h.2.2⟩
def zfty (t : Nat) : FieldType := if t = 20 then .int else if t = 21 then .boolean else if t = 22 then .byte else if t = 23 then .long else .object "DrownedLand$Told"
def zcy (s : State) (t : Nat) : ClassId := (s.vm.findClass ("[" ++ (zfty t).toString)).getD 0
theorem zcy_of {s : State} {cA : ClassId} {ty : FieldType} (t : Nat) (ht : zfty t = ty) (h : va_RA s cA ty) : zcy s t = cA := by
  have h2 : s.vm.findClass ("[" ++ ty.toString) = some cA := by
    cases ty with
    | object C => obtain ⟨_, _, _, _, _, h4⟩ := h; exact h4
    | _ => exact h
  unfold zcy
  rw [ht, h2]
  rfl
theorem zokI {w : zW} {M : zM} {H : Heap} {r t n q : Nat} {f : Nat → Int32} (hr : ztag w.1 r = t) (ht : t = 20 ∨ t = 21 ∨ t = 22) (hl : zlen w.1 r = n) (ha : w.2.1 r = q) (h : H[q]? = some (vp_cell (w.2.2.2 t) (n, .inl f))) (hf : ∀ j, M r j = (f j).toInt) : zok w M H r := by
  refine zok_arr' hr (by omega) ?_
  rw [ha, h, hl, vp_cell_i]
  congr 2
  funext j
  unfold zav iv
  rw [if_neg (by omega), if_neg (by omega), hf j, zi_back]
theorem zokJ {w : zW} {M : zM} {H : Heap} {r n q : Nat} {f : Nat → Int64} (hr : ztag w.1 r = 23) (hl : zlen w.1 r = n) (ha : w.2.1 r = q) (h : H[q]? = some (vp_cell (w.2.2.2 23) (n, .inr (.inl f)))) (hf : ∀ j, M r j = (f j).toInt) : zok w M H r := by
  refine zok_arr' hr (by decide) ?_
  rw [ha, h, hl, vp_cell_l]
  congr 2
  funext j
  unfold zav jv
  rw [if_pos rfl, hf j, zj_back]
theorem zokQ {w : zW} {M : zM} {H : Heap} {r n q : Nat} (hr : ztag w.1 r = 24) (hl : zlen w.1 r = n) (ha : w.2.1 r = q) (h : H[q]? = some (vp_cell (w.2.2.2 24) (n, .inr (.inr (.inr (.inr (fun _ => none))))))) (hf : ∀ j, M r j = 0) : zok w M H r := by
  refine zok_arr' hr (by decide) ?_
  rw [ha, h, hl, vp_cell_q]
  congr 2
  funext j
  unfold zav
  rw [if_neg (by decide), if_pos rfl, hf j]
  rfl
theorem zokO {w : zW} {M : zM} {H : Heap} {r c q : Nat} {fs : List Value} (hr : ztag w.1 r = c + 1) (hc : c < 12) (ha : w.2.1 r = q) (hN : ∀ x, zcl[c]? = some x → x.2.2 = znf c) (h : va_at w.2.2.1 zcl (q, .inr (c, fs)) H) (hf : ∀ k, k < znf c → vp_V fs k = zfv w M r c k) : zok w M H r := by
  obtain ⟨x, h1, h2⟩ := h
  refine zok_obj' hr hc ?_
  rw [ha]
  have e := hN x h1
  change t_OB q (w.2.2.1.1 c) x.2.2 (w.2.2.1.2 c) H (vp_V fs) at h2
  rw [e] at h2
  exact h2.to hf
theorem zclN : ∀ c x, zcl[c]? = some x → x.2.2 = znf c := by
  intro c x h
  have hc : c < 12 := (List.getElem?_eq_some_iff.mp h).1
  match c, hc, h with
  | 0, _, h => cases h; rfl
  | 1, _, h => cases h; rfl
  | 2, _, h => cases h; rfl
  | 3, _, h => cases h; rfl
  | 4, _, h => cases h; rfl
  | 5, _, h => cases h; rfl
  | 6, _, h => cases h; rfl
  | 7, _, h => cases h; rfl
  | 8, _, h => cases h; rfl
  | 9, _, h => cases h; rfl
  | 10, _, h => cases h; rfl
  | 11, _, h => cases h; rfl
def zM0L (xg6 xg7 mgH mgM : Nat → Int32) : List (Nat → Int) := [fun _ => 0,
  fun s => ([0, 0, 0, 0, 0, 0, 0, 0, 0, 0, 52, 64, (-1), 0, 1] : List Int).getD s 0,
  fun s => ([0, 0, 0, 0, 0, 0, 0, 0] : List Int).getD s 0,
  fun _ => 0,
  fun s => ([0, 0, 0, 0, 0, 0, 0, 0, 0, 0, 0, 0, 0, 0, 0, 0, 0, 0, 0, 0] : List Int).getD s 0,
  fun _ => 0,
  fun _ => 0,
  fun _ => 0,
  fun _ => 0,
  fun _ => 0,
  fun _ => 0,
  fun _ => 0,
  fun _ => 0,
  fun _ => 0,
  fun _ => 0,
  fun _ => 0,
  fun _ => 0,
  fun _ => 0,
  fun s => (xg6 s).toInt,
  fun s => (xg7 s).toInt,
  fun _ => 0,
  fun s => ([0, 0, 0, 0, 0, 0, (-1)] : List Int).getD s 0,
  fun _ => 0,
  fun _ => 0,
  fun s => ([0, 0, 0, 0, 0, 0, 0, 0, 0, 0, 0] : List Int).getD s 0,
  fun _ => 0,
  fun _ => 0,
  fun _ => 0,
  fun _ => 0,
  fun _ => 0,
  fun _ => 0,
  fun _ => 0,
  fun _ => 0,
  fun _ => 0,
  fun _ => 0,
  fun _ => 0,
  fun _ => 0,
  fun _ => 0,
  fun _ => 0,
  fun s => ([0, 0, 0] : List Int).getD s 0,
  fun _ => 0,
  fun _ => 0,
  fun _ => 0,
  fun s => ([0, 0] : List Int).getD s 0,
  fun _ => 0,
  fun _ => 0,
  fun s => ([0, 1000000, 0, 0, 0, 0, (-1)] : List Int).getD s 0,
  fun _ => 0,
  fun _ => 0,
  fun _ => 0,
  fun s => ([0, 1] : List Int).getD s 0,
  fun _ => 0,
  fun s => ([0, 0, 0, 0, 0, 0, 0, 0, 0, 0, 0, 0, 0, 0, 0] : List Int).getD s 0,
  fun _ => 0,
  fun _ => 0,
  fun _ => 0,
  fun _ => 0,
  fun _ => 0,
  fun _ => 0,
  fun _ => 0,
  fun _ => 0,
  fun _ => 0,
  fun _ => 0,
  fun _ => 0,
  fun s => ([0, 0, 0, 0, 0, 0, 0, 0, 0, 0, 0, 0, 0, 0, 0] : List Int).getD s 0,
  fun _ => 0,
  fun _ => 0,
  fun _ => 0,
  fun _ => 0,
  fun _ => 0,
  fun _ => 0,
  fun _ => 0,
  fun _ => 0,
  fun _ => 0,
  fun _ => 0,
  fun _ => 0,
  fun s => ([0, 0, 0, 0, 0, 0, 0, 0, 0, 0, 0, 0, 0, 0, 0, 0, 0, 0, 0, 0, 0, 0, 0, 0, 0, 0, 0, 0, 0, 0, 0, 0, 0, 0, 0, (-1), 0, 0, 0, 0, 0, 0, 0, 0, 0, 0, 0, 0, 0, 0, 0, 0, 0, 0, 0, 0, 0, 0, 0, 0, 0, 0, 0, 0, 0, 0, 0, 0, 0, 0, 0, 0, 0] : List Int).getD s 0,
  fun _ => 0,
  fun _ => 0,
  fun _ => 0,
  fun _ => 0,
  fun _ => 0,
  fun _ => 0,
  fun s => (mgH s).toInt,
  fun _ => 0,
  fun s => (mgM s).toInt,
  fun _ => 0,
  fun _ => 0,
  fun _ => 0,
  fun _ => 0,
  fun _ => 0,
  fun _ => 0,
  fun _ => 0,
  fun _ => 0,
  fun _ => 0,
  fun _ => 0,
  fun _ => 0,
  fun _ => 0,
  fun _ => 0,
  fun _ => 0,
  fun _ => 0,
  fun _ => 0,
  fun _ => 0,
  fun _ => 0,
  fun _ => 0,
  fun _ => 0,
  fun _ => 0,
  fun _ => 0,
  fun _ => 0,
  fun _ => 0,
  fun _ => 0,
  fun _ => 0,
  fun _ => 0,
  fun _ => 0,
  fun _ => 0,
  fun _ => 0,
  fun _ => 0,
  fun _ => 0,
  fun _ => 0,
  fun _ => 0,
  fun _ => 0,
  fun _ => 0,
  fun _ => 0,
  fun _ => 0,
  fun _ => 0,
  fun _ => 0,
  fun _ => 0,
  fun _ => 0,
  fun _ => 0]
def zM0 (xg6 xg7 mgH mgM : Nat → Int32) : zM := fun r s => ((zM0L xg6 xg7 mgH mgM).getD r (fun _ => 0)) s

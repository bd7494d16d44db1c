/-! law: runs of bytes -/
def zRun (p : Int → Bool) (b : Nat → Int) : Nat → Nat → Nat
  | 0, x => x
  | d + 1, x => if p (b x) = true then zRun p b d (x + 1) else x
def zRn (p : Int → Bool) (b : Nat → Int) (n x : Nat) : Nat := zRun p b (n - x) x
theorem zRn_n {p : Int → Bool} {b : Nat → Int} {n x : Nat} (h : n ≤ x) : zRn p b n x = x := by
  unfold zRn
  rw [show n - x = 0 by omega]
  rfl
theorem zRn_s {p : Int → Bool} {b : Nat → Int} {n x : Nat} (h : x < n) : zRn p b n x = if p (b x) = true then zRn p b n (x + 1) else x := by
  unfold zRn
  obtain ⟨d, hd⟩ : ∃ d, n - x = d + 1 := ⟨n - x - 1, by omega⟩
  rw [hd, show n - (x + 1) = d by omega]
  rfl
theorem zRn_y {p : Int → Bool} {b : Nat → Int} {n x : Nat} (h : x < n) (hp : p (b x) = true) : zRn p b n x = zRn p b n (x + 1) := by rw [zRn_s h, if_pos hp]
theorem zRn_o {p : Int → Bool} {b : Nat → Int} {n x : Nat} (h : x < n) (hp : ¬ p (b x) = true) : zRn p b n x = x := by rw [zRn_s h, if_neg hp]
theorem zRn_r {p : Int → Bool} {b : Nat → Int} {n : Nat} : ∀ d x, n - x = d → x ≤ n → x ≤ zRn p b n x ∧ zRn p b n x ≤ n ∧ (∀ y, x ≤ y → y < zRn p b n x → p (b y) = true) ∧ (zRn p b n x < n → ¬ p (b (zRn p b n x)) = true) := by
  intro d
  induction d with
  | zero =>
    intro x h1 h2
    rw [zRn_n (by omega)]
    exact ⟨Nat.le_refl _, h2, fun y a b => absurd a (by omega), fun h => absurd h (by omega)⟩
  | succ d ih =>
    intro x h1 h2
    by_cases hp : p (b x) = true
    · rw [zRn_y (by omega) hp]
      have := ih (x + 1) (by omega) (by omega)
      refine ⟨by omega, this.2.1, fun y h3 h4 => ?_, this.2.2.2⟩
      by_cases e : y = x
      · subst e; exact hp
      · exact this.2.2.1 y (by omega) h4
    · rw [zRn_o (by omega) hp]
      exact ⟨Nat.le_refl _, h2, fun y a b => absurd a (by omega), fun _ => hp⟩
theorem zO_run {p : Int → Bool} {b : Nat → Int} {n x : Nat} {F : zM → Option (zM ⊕ zM)} (S : Nat → zM) (hx : x ≤ n) (hn : n ≤ 700) (hy : ∀ y, x ≤ y → y < n → (∀ z, x ≤ z → z < y → p (b z) = true) → p (b y) = true → zO (F (S y)) (fun u => u = .inl (S (y + 1)))) (hno : ∀ y, x ≤ y → y ≤ n → (∀ z, x ≤ z → z < y → p (b z) = true) → (y < n → ¬ p (b y) = true) → zO (F (S y)) (fun u => u = .inr (S y))) : zwh F zfu (S x) = some (S (zRn p b n x)) := by
  have hr := zRn_r (p := p) (b := b) (n := n) _ x rfl hx
  have key : ∀ d f y, zRn p b n x - y = d → x ≤ y → y ≤ zRn p b n x → d < f → zwh F f (S y) = some (S (zRn p b n x)) := by
    intro d
    induction d with
    | zero =>
      intro f y h1 h2 h3 h4
      obtain ⟨f, rfl⟩ : ∃ g, f = g + 1 := ⟨f - 1, by omega⟩
      have h6 : y = zRn p b n x := by omega
      have h := zO_get (hno y h2 (by omega) (fun z a c => hr.2.2.1 z a (by omega)) (fun h => by rw [h6]; exact hr.2.2.2 (by omega)))
      rw [zwh_s, h, h6]
    | succ d ih =>
      intro f y h1 h2 h3 h4
      obtain ⟨f, rfl⟩ : ∃ g, f = g + 1 := ⟨f - 1, by omega⟩
      have h := zO_get (hy y h2 (by omega) (fun z a c => hr.2.2.1 z a (by omega)) (hr.2.2.1 y h2 (by omega)))
      rw [zwh_s, h]
      exact ih f (y + 1) (by omega) (by omega) (by omega) (by omega)
  exact key _ zfu x rfl (Nat.le_refl _) hr.1 (by unfold zfu; omega)
theorem zst_zst {M : zM} {r s : Nat} {v w : Int} : zst (zst M r s v) r s w = zst M r s w := by
  funext q j
  simp only [zst]
  split <;> rfl
theorem zst_two {M : zM} {r s t : Nat} {v v' y y' : Int} (h : s ≠ t) : zst (zst (zst (zst M r s v) r t y) r s v') r t y' = zst (zst M r s v') r t y' := by
  funext q j
  simp only [zst]
  repeat' split
  all_goals first | rfl | omega
/-! tokens -/
def zBl (v : Int) : Bool := decide (v = 32 ∨ v = 10)
def zLe (v : Int) : Bool := decide (97 ≤ v ∧ v ≤ 122)
def zDi (v : Int) : Bool := decide (48 ≤ v ∧ v ≤ 57)
theorem zBl_i {v : Int} : zBl v = true ↔ (v = 32 ∨ v = 10) := by unfold zBl; simp
theorem zLe_i {v : Int} : zLe v = true ↔ (97 ≤ v ∧ v ≤ 122) := by unfold zLe; simp
theorem zDi_i {v : Int} : zDi v = true ↔ (48 ≤ v ∧ v ≤ 57) := by unfold zDi; simp
/-- where the token begins, which kind it is, where it ends -/
def yA (b : Nat → Int) (n x : Nat) : Nat := zRn zBl b n x
def yK (b : Nat → Int) (n x : Nat) : Int := if n ≤ yA b n x then 0 else if zLe (b (yA b n x)) = true then 1 else if zDi (b (yA b n x)) = true then 2 else 3
def yE (b : Nat → Int) (n x : Nat) : Nat := if n ≤ yA b n x then yA b n x else if zLe (b (yA b n x)) = true then zRn zLe b n (yA b n x) else if zDi (b (yA b n x)) = true then zRn zDi b n (yA b n x) else yA b n x + 1
def yD (b : Nat → Int) (a : Nat) : Nat → Int
  | 0 => 0
  | l + 1 => if l < 4 then yD b a l * 10 + b (a + l) - 48 else 10000
def yH (b : Nat → Int) (a : Nat) : Nat → Int
  | 0 => 0
  | l + 1 => if l < 10 then yH b a l * 27 + (b (a + l) - 96) else -1
def yR (b : Nat → Int) (a : Nat) : Nat → Int
  | 0 => 0
  | l + 1 => if yR b a l < 1000000 then 10 * yR b a l + b (a + l) - 48 else yR b a l
def yV (b : Nat → Int) (n x : Nat) : Int := if yK b n x = 2 then yD b (yA b n x) (yE b n x - yA b n x) else if yK b n x = 3 then b (yA b n x) else 0
def yW (b : Nat → Int) (n x : Nat) : Int := if yK b n x = 1 then yH b (yA b n x) (yE b n x - yA b n x) else -1
def yU (b : Nat → Int) (n x : Nat) : Int := if yK b n x = 2 then yR b (yA b n x) (yE b n x - yA b n x) else 0
def ySg (v : Int) : Prop := v = 40 ∨ v = 41 ∨ v = 59 ∨ v = 60 ∨ v = 62 ∨ v = 61
abbrev yT (b : Nat → Int) (n x : Nat) (t : Int) : Prop := (yK b n x = 0 → t = 0) ∧ (yK b n x = 1 → t = 1) ∧ (yK b n x = 2 → t = if yE b n x - yA b n x ≤ 4 then 2 else 3) ∧ (yK b n x = 3 → (ySg (b (yA b n x)) ∧ t = b (yA b n x)) ∨ (¬ ySg (b (yA b n x)) ∧ t = 3))
theorem yA_r {b : Nat → Int} {n x : Nat} (h : x ≤ n) : x ≤ yA b n x ∧ yA b n x ≤ n := by
  have := zRn_r (p := zBl) (b := b) (n := n) _ x rfl h
  exact ⟨this.1, this.2.1⟩
theorem yK_r {b : Nat → Int} {n x : Nat} : yK b n x = 0 ∨ yK b n x = 1 ∨ yK b n x = 2 ∨ yK b n x = 3 := by
  unfold yK
  repeat' split
  all_goals omega
theorem yE_r {b : Nat → Int} {n x : Nat} (h : x ≤ n) : yA b n x ≤ yE b n x ∧ yE b n x ≤ n ∧ (yK b n x ≠ 0 → yA b n x < yE b n x) ∧ (yK b n x = 0 → yA b n x = n) := by
  have h1 := yA_r (b := b) h
  unfold yE yK
  by_cases c0 : n ≤ yA b n x
  · rw [if_pos c0, if_pos c0]
    exact ⟨by omega, by omega, fun h => absurd rfl h, fun _ => by omega⟩
  · rw [if_neg c0, if_neg c0]
    by_cases c1 : zLe (b (yA b n x)) = true
    · rw [if_pos c1, if_pos c1]
      have := zRn_r (p := zLe) (b := b) (n := n) _ (yA b n x) rfl h1.2
      have h2 := zRn_r (p := zLe) (b := b) (n := n) _ (yA b n x + 1) rfl (by omega)
      rw [← zRn_y (by omega) c1] at h2
      exact ⟨by omega, by omega, fun _ => by omega, fun h => by omega⟩
    · rw [if_neg c1, if_neg c1]
      by_cases c2 : zDi (b (yA b n x)) = true
      · rw [if_pos c2, if_pos c2]
        have h2 := zRn_r (p := zDi) (b := b) (n := n) _ (yA b n x + 1) rfl (by omega)
        rw [← zRn_y (by omega) c2] at h2
        exact ⟨by omega, by omega, fun _ => by omega, fun h => by omega⟩
      · rw [if_neg c2, if_neg c2]
        exact ⟨by omega, by omega, fun _ => by omega, fun h => by omega⟩
/-- bytes -/
abbrev zBy (b : Nat → Int) : Prop := ∀ j, j < 700 → 0 ≤ b j ∧ b j ≤ 255
theorem yD_r {b : Nat → Int} {a : Nat} : ∀ l, (∀ j, j < l → 48 ≤ b (a + j) ∧ b (a + j) ≤ 57) → 0 ≤ yD b a l ∧ yD b a l ≤ 10000 ∧ (l ≤ 4 → yD b a l = yR b a l) ∧ (l ≤ 4 → yD b a l < 10 ^ l) ∧ (4 < l → yD b a l = 10000) := by
  intro l
  induction l with
  | zero => intro _; exact ⟨Int.le_refl 0, by show (0 : Int) ≤ 10000; omega, fun _ => rfl, fun _ => by show (0 : Int) < 10 ^ 0; omega, fun h => by omega⟩
  | succ l ih =>
    intro h
    have h1 := ih (fun j hj => h j (by omega))
    have h2 := h l (by omega)
    show 0 ≤ (if l < 4 then yD b a l * 10 + b (a + l) - 48 else 10000) ∧ (if l < 4 then yD b a l * 10 + b (a + l) - 48 else 10000) ≤ 10000 ∧ (l + 1 ≤ 4 → (if l < 4 then yD b a l * 10 + b (a + l) - 48 else 10000) = if yR b a l < 1000000 then 10 * yR b a l + b (a + l) - 48 else yR b a l) ∧ (l + 1 ≤ 4 → (if l < 4 then yD b a l * 10 + b (a + l) - 48 else 10000) < 10 ^ (l + 1)) ∧ (4 < l + 1 → (if l < 4 then yD b a l * 10 + b (a + l) - 48 else 10000) = 10000)
    by_cases c : l < 4
    · have h3 := h1.2.2.2.1 (by omega)
      have h4 := h1.2.2.1 (by omega)
      have h5 : (10 : Int) ^ l ≤ 1000 := by
        rcases (show l = 0 ∨ l = 1 ∨ l = 2 ∨ l = 3 by omega) with rfl | rfl | rfl | rfl <;> decide
      rw [if_pos c, Int.pow_succ, ← h4, if_pos (by omega)]
      omega
    · rw [if_neg c]
      exact ⟨by omega, by omega, fun h => by omega, fun h => by omega, fun _ => rfl⟩
theorem yR_r {b : Nat → Int} {a : Nat} : ∀ l, (∀ j, j < l → 48 ≤ b (a + j) ∧ b (a + j) ≤ 57) → 0 ≤ yR b a l ∧ yR b a l ≤ 10000000 := by
  intro l
  induction l with
  | zero => intro _; exact ⟨Int.le_refl 0, by show (0 : Int) ≤ 10000000; omega⟩
  | succ l ih =>
    intro h
    have h1 := ih (fun j hj => h j (by omega))
    have h2 := h l (by omega)
    show 0 ≤ (if yR b a l < 1000000 then 10 * yR b a l + b (a + l) - 48 else yR b a l) ∧ (if yR b a l < 1000000 then 10 * yR b a l + b (a + l) - 48 else yR b a l) ≤ 10000000
    split <;> omega
/-! the class's token in hand -/
def zTc (b : Nat → Int) (n x : Nat) (M : zM) : Prop := M 2 3 = (yA b n x : Int) ∧ M 2 4 = (yE b n x : Int) ∧ M 2 5 = yK b n x ∧ M 2 6 = yV b n x
theorem g6_step {i n x : Nat} {M : zM} (hn : n ≤ 700) (hb : zBy (M 3)) (h2 : M 2 2 = (n : Int)) (h4 : M 2 4 = (x : Int)) (hx : x ≤ n) : zO (g_X6_step (zKn i) M) (fun M' => zFr [2] M M' ∧ (∀ s, s ≠ 3 → s ≠ 4 → s ≠ 5 → s ≠ 6 → M' 2 s = M 2 s) ∧ zTc (M 3) n x M') := by
  unfold g_X6_step
  have hskip : zw1 (gb_X6_step_0 (zKn i)) zfu M = some (zst M 2 4 (yA (M 3) n x : Int)) := by
    have h := zO_run (p := zBl) (b := M 3) (F := fun t => gb_X6_step_0 (zKn i) t) (fun y => zst M 2 4 (y : Int)) hx hn ?_ ?_
    · rw [zst_id h4] at h
      exact h
    · intro y h1 h3 _ hp
      rw [zBl_i] at hp
      have hby := hb y (by omega)
      rw [gb_X6_step_0]
      simp only [zst_eq, zst_ns (show (2 : Nat) ≠ 4 by decide), zst_ne (show (3 : Nat) ≠ 2 by decide), h2, Int.toNat_natCast, zst_zst]
      refine zO_brn ⟨by omega, by omega⟩ ⟨by omega, by omega⟩ (by omega) (zO_gd (by omega) (zO_sp0 ?_))
      refine zO_br ⟨by omega, by omega⟩ ⟨by omega, by omega⟩ (fun hc => zO_inl (zO_lt (zO_some rfl))) (fun hc => zO_gd (by omega) (zO_brn ⟨by omega, by omega⟩ ⟨by omega, by omega⟩ (by omega) (zO_inl (zO_lt (zO_some rfl)))))
    · intro y h1 h3 _ hp
      rw [gb_X6_step_0]
      simp only [zst_eq, zst_ns (show (2 : Nat) ≠ 4 by decide), zst_ne (show (3 : Nat) ≠ 2 by decide), h2, Int.toNat_natCast]
      refine zO_br ⟨by omega, by omega⟩ ⟨by omega, by omega⟩ (fun hc => zO_some rfl) (fun hc => ?_)
      have hp' := hp (by omega)
      rw [zBl_i] at hp'
      have hby := hb y (by omega)
      exact zO_gd (by omega) (zO_sp0 (zO_brn ⟨by omega, by omega⟩ ⟨by omega, by omega⟩ (by omega) (zO_gd (by omega) (zO_brp ⟨by omega, by omega⟩ ⟨by omega, by omega⟩ (by omega) (zO_inr (show zO _ _ from zO_some rfl))))))
  refine zO_b1e hskip ?_
  have hA := yA_r (b := M 3) hx
  have hE := yE_r (b := M 3) hx
  have hKr := yK_r (b := M 3) (n := n) (x := x)
  refine zO_lte (fun M3 e3 => zO_lte (fun M4 e4 => ?_))
  have f4 : zFr [2] M M4 := by rw [e4, e3]; exact ((zFr.st1 (by decide)).st (by decide)).st (by decide)
  have o4 : ∀ s, s ≠ 3 → s ≠ 4 → s ≠ 5 → s ≠ 6 → M4 2 s = M 2 s := fun s a c _ d => by rw [e4, e3, zst_ns d, zst_ns a, zst_ns c]
  have m3 : M4 2 3 = (yA (M 3) n x : Int) := by rw [e4, e3, zst_ns (by decide), zst_eq, zst_eq]
  have m4 : M4 2 4 = (yA (M 3) n x : Int) := by rw [e4, e3, zst_ns (by decide), zst_ns (by decide), zst_eq]
  have m6 : M4 2 6 = 0 := by rw [e4, zst_eq]
  have m2 : M4 2 2 = (n : Int) := by rw [o4 2 (by decide) (by decide) (by decide) (by decide)]; exact h2
  have mb : M4 3 = M 3 := f4 3 (by decide)
  clear e3 e4 hskip
  have end' : ∀ (M' : zM), zFr [2] M4 M' → (∀ s, s ≠ 4 → s ≠ 5 → s ≠ 6 → M' 2 s = M4 2 s) → M' 2 4 = (yE (M 3) n x : Int) → M' 2 5 = yK (M 3) n x → M' 2 6 = yV (M 3) n x → (zFr [2] M M' ∧ (∀ s, s ≠ 3 → s ≠ 4 → s ≠ 5 → s ≠ 6 → M' 2 s = M 2 s) ∧ zTc (M 3) n x M') := fun M' a c d e f => ⟨f4.tr a, fun s h1 h2 h3 h4 => by rw [c s h2 h3 h4]; exact o4 s h1 h2 h3 h4, by rw [c 3 (by decide) (by decide) (by decide)]; exact m3, d, e, f⟩
  rw [m2, m3]
  by_cases c0 : n ≤ yA (M 3) n x
  · have k0 : yK (M 3) n x = 0 := by unfold yK; rw [if_pos c0]
    have e0 : yE (M 3) n x = yA (M 3) n x := by unfold yE; rw [if_pos c0]
    refine zO_brn ⟨by omega, by omega⟩ ⟨by omega, by omega⟩ (by omega) (zO_lt (zO_some (end' _ (zFr.st1 (by decide)) (fun s _ h _ => zst_ns h) ?_ ?_ ?_)))
    · rw [zst_ns (by decide), m4, e0]
    · rw [zst_eq, k0]
    · rw [zst_ns (by decide), m6]
      unfold yV
      rw [k0, if_neg (by decide), if_neg (by decide)]
  · have hby := hb (yA (M 3) n x) (by omega)
    refine zO_brp ⟨by omega, by omega⟩ ⟨by omega, by omega⟩ (by omega) (zO_gd (by omega) ?_)
    simp only [mb, Int.toNat_natCast, m3]
    by_cases c1 : zLe (M 3 (yA (M 3) n x)) = true
    · have k1 : yK (M 3) n x = 1 := by unfold yK; rw [if_neg c0, if_pos c1]
      have e1 : yE (M 3) n x = zRn zLe (M 3) n (yA (M 3) n x) := by unfold yE; rw [if_neg c0, if_pos c1]
      have c1' := zLe_i.1 c1
      have hloop : zw1 (gb_X6_step_117 (zKn i)) zfu (zst M4 2 5 1) = some (zst (zst M4 2 5 1) 2 4 (yE (M 3) n x : Int)) := by
        have h := zO_run (p := zLe) (b := M 3) (F := fun t => gb_X6_step_117 (zKn i) t) (fun y => zst (zst M4 2 5 1) 2 4 (y : Int)) hA.2 hn ?_ ?_
        · rw [zst_id (show zst M4 2 5 1 2 4 = (yA (M 3) n x : Int) by rw [zst_ns (by decide)]; exact m4)] at h
          rw [e1]
          exact h
        · intro y h1 h3 _ hp
          rw [zLe_i] at hp
          rw [gb_X6_step_117]
          simp only [zst_eq, zst_ns (show (2 : Nat) ≠ 4 by decide), zst_ns (show (2 : Nat) ≠ 5 by decide), zst_ne (show (3 : Nat) ≠ 2 by decide), m2, mb, Int.toNat_natCast, zst_zst]
          exact zO_brn ⟨by omega, by omega⟩ ⟨by omega, by omega⟩ (by omega) (zO_gd (by omega) (zO_brn ⟨by omega, by omega⟩ ⟨by omega, by omega⟩ (by omega) (zO_gd (by omega) (zO_brn ⟨by omega, by omega⟩ ⟨by omega, by omega⟩ (by omega) (zO_lt (zO_some rfl))))))
        · intro y h1 h3 _ hp
          rw [gb_X6_step_117]
          simp only [zst_eq, zst_ns (show (2 : Nat) ≠ 4 by decide), zst_ns (show (2 : Nat) ≠ 5 by decide), zst_ne (show (3 : Nat) ≠ 2 by decide), m2, mb, Int.toNat_natCast]
          refine zO_br ⟨by omega, by omega⟩ ⟨by omega, by omega⟩ (fun hc => zO_some rfl) (fun hc => ?_)
          have hp' := hp (by omega)
          rw [zLe_i] at hp'
          have hby' := hb y (by omega)
          exact zO_gd (by omega) (zO_br ⟨by omega, by omega⟩ ⟨by omega, by omega⟩ (fun _ => zO_some rfl) (fun _ => zO_gd (by omega) (zO_brp ⟨by omega, by omega⟩ ⟨by omega, by omega⟩ (by omega) (zO_some rfl))))
      refine zO_sp1 (zO_brn ⟨by omega, by omega⟩ ⟨by omega, by omega⟩ (by omega) (zO_gd (by omega) (zO_brn ⟨by omega, by omega⟩ ⟨by omega, by omega⟩ (by omega) (zO_lt (zO_b1e hloop (zO_inr (show zO _ _ from zO_some (end' _ ((zFr.st1 (by decide)).st (by decide)) (fun s h h' _ => by rw [zst_ns h, zst_ns h']) ?_ ?_ ?_))))))))
      · rw [zst_eq]
      · rw [zst_ns (by decide), zst_eq, k1]
      · rw [zst_ns (by decide), zst_ns (by decide), m6]
        unfold yV
        rw [k1, if_neg (by decide), if_neg (by decide)]
    · have c1' : ¬ (97 ≤ M 3 (yA (M 3) n x) ∧ M 3 (yA (M 3) n x) ≤ 122) := fun h => c1 (zLe_i.2 h)
      refine zO_sp1 (zO_mono (Q := fun u => u = .inl M4) ?_ ?_)
      · refine zO_br ⟨by omega, by omega⟩ ⟨by omega, by omega⟩ (fun _ => zO_some rfl) (fun _ => zO_gd (by omega) (zO_brp ⟨by omega, by omega⟩ ⟨by omega, by omega⟩ (by omega) (zO_some rfl)))
      rintro u rfl
      show zO _ _
      simp only [m3, mb, Int.toNat_natCast]
      refine zO_gd (by omega) ?_
      by_cases c2 : zDi (M 3 (yA (M 3) n x)) = true
      · have k2 : yK (M 3) n x = 2 := by unfold yK; rw [if_neg c0, if_neg c1, if_pos c2]
        have e2 : yE (M 3) n x = zRn zDi (M 3) n (yA (M 3) n x) := by unfold yE; rw [if_neg c0, if_neg c1, if_pos c2]
        have c2' := zDi_i.1 c2
        have hloop : zw1 (gb_X6_step_202 (zKn i)) zfu (zst M4 2 5 2) = some (zst (zst (zst M4 2 5 2) 2 6 (yD (M 3) (yA (M 3) n x) (yE (M 3) n x - yA (M 3) n x))) 2 4 (yE (M 3) n x : Int)) := by
          have h := zO_run (p := zDi) (b := M 3) (F := fun t => gb_X6_step_202 (zKn i) t) (fun y => zst (zst (zst M4 2 5 2) 2 6 (yD (M 3) (yA (M 3) n x) (y - yA (M 3) n x))) 2 4 (y : Int)) hA.2 hn ?_ ?_
          · rw [show yA (M 3) n x - yA (M 3) n x = 0 by omega, zst_id (q := 2) (j := 6) (show zst M4 2 5 2 2 6 = yD (M 3) (yA (M 3) n x) 0 by rw [zst_ns (by decide)]; exact m6), zst_id (show zst M4 2 5 2 2 4 = (yA (M 3) n x : Int) by rw [zst_ns (by decide)]; exact m4)] at h
            rw [e2]
            exact h
          · intro y h1 h3 hall hp
            rw [zDi_i] at hp
            have hd := yD_r (b := M 3) (a := yA (M 3) n x) (y - yA (M 3) n x) (fun j hj => zDi_i.1 (hall _ (by omega) (by omega)))
            rw [gb_X6_step_202]
            simp only [zst_eq, zst_ns (show (2 : Nat) ≠ 4 by decide), zst_ns (show (2 : Nat) ≠ 5 by decide), zst_ns (show (2 : Nat) ≠ 6 by decide), zst_ns (show (3 : Nat) ≠ 4 by decide), zst_ns (show (3 : Nat) ≠ 5 by decide), zst_ns (show (3 : Nat) ≠ 6 by decide), zst_ns (show (6 : Nat) ≠ 4 by decide), zst_ne (show (3 : Nat) ≠ 2 by decide), m2, m3, mb, Int.toNat_natCast]
            refine zO_brn ⟨by omega, by omega⟩ ⟨by omega, by omega⟩ (by omega) (zO_gd (by omega) (zO_brn ⟨by omega, by omega⟩ ⟨by omega, by omega⟩ (by omega) (zO_gd (by omega) (zO_brn ⟨by omega, by omega⟩ ⟨by omega, by omega⟩ (by omega) ?_))))
            have hv : yD (M 3) (yA (M 3) n x) (y + 1 - yA (M 3) n x) = if y - yA (M 3) n x < 4 then yD (M 3) (yA (M 3) n x) (y - yA (M 3) n x) * 10 + M 3 y - 48 else 10000 := by
              rw [show y + 1 - yA (M 3) n x = (y - yA (M 3) n x) + 1 by omega]
              show (if _ then _ else _) = _
              rw [show yA (M 3) n x + (y - yA (M 3) n x) = y by omega]
            refine zO_b1 (zO_br ⟨by omega, by omega⟩ ⟨by omega, by omega⟩ (fun hc => zO_some ?_) (fun hc => zO_gd (by omega) (zO_some ?_)))
            · refine zO_lt (zO_lt (zO_some ?_))
              rw [hv, if_neg (by omega), zst_two (by decide), zst_ns (by decide), zst_eq]
              rfl
            · refine zO_lt (zO_lt (zO_some ?_))
              rw [hv, if_pos (by omega), zst_two (by decide), zst_ns (by decide), zst_eq]
              rfl
          · intro y h1 h3 hall hp
            rw [gb_X6_step_202]
            simp only [zst_eq, zst_ns (show (2 : Nat) ≠ 4 by decide), zst_ns (show (2 : Nat) ≠ 5 by decide), zst_ns (show (2 : Nat) ≠ 6 by decide), zst_ne (show (3 : Nat) ≠ 2 by decide), m2, mb, Int.toNat_natCast]
            refine zO_br ⟨by omega, by omega⟩ ⟨by omega, by omega⟩ (fun hc => zO_some rfl) (fun hc => ?_)
            have hp' := hp (by omega)
            rw [zDi_i] at hp'
            have hby' := hb y (by omega)
            exact zO_gd (by omega) (zO_br ⟨by omega, by omega⟩ ⟨by omega, by omega⟩ (fun _ => zO_some rfl) (fun _ => zO_gd (by omega) (zO_brp ⟨by omega, by omega⟩ ⟨by omega, by omega⟩ (by omega) (zO_some rfl))))
        refine zO_sp1 (zO_brn ⟨by omega, by omega⟩ ⟨by omega, by omega⟩ (by omega) (zO_gd (by omega) (zO_brn ⟨by omega, by omega⟩ ⟨by omega, by omega⟩ (by omega) (zO_lt (zO_b1e hloop (zO_inr (show zO _ _ from zO_some (end' _ (((zFr.st1 (by decide)).st (by decide)).st (by decide)) (fun s h h' h'' => by rw [zst_ns h, zst_ns h'', zst_ns h']) ?_ ?_ ?_))))))))
        · rw [zst_eq]
        · rw [zst_ns (by decide), zst_ns (by decide), zst_eq, k2]
        · rw [zst_ns (by decide), zst_eq]
          unfold yV
          rw [k2, if_pos rfl]
      · have c2' : ¬ (48 ≤ M 3 (yA (M 3) n x) ∧ M 3 (yA (M 3) n x) ≤ 57) := fun h => c2 (zDi_i.2 h)
        have k3 : yK (M 3) n x = 3 := by unfold yK; rw [if_neg c0, if_neg c1, if_neg c2]
        have e3 : yE (M 3) n x = yA (M 3) n x + 1 := by unfold yE; rw [if_neg c0, if_neg c1, if_neg c2]
        refine zO_sp1 (zO_mono (Q := fun u => u = .inl M4) ?_ ?_)
        · refine zO_br ⟨by omega, by omega⟩ ⟨by omega, by omega⟩ (fun _ => zO_some rfl) (fun _ => zO_gd (by omega) (zO_brp ⟨by omega, by omega⟩ ⟨by omega, by omega⟩ (by omega) (zO_some rfl)))
        rintro u rfl
        show zO _ _
        refine zO_lt ?_
        simp only [zst_ns (show (3 : Nat) ≠ 5 by decide), zst_ne (show (3 : Nat) ≠ 2 by decide), m3, mb, Int.toNat_natCast]
        refine zO_gd (by omega) (zO_lt (zO_lt (zO_some (end' _ (((zFr.st1 (by decide)).st (by decide)).st (by decide)) (fun s h h' h'' => by rw [zst_ns h, zst_ns h'', zst_ns h']) ?_ ?_ ?_))))
        · rw [zst_eq, zst_ns (by decide), zst_ns (by decide), m4, e3]
          omega
        · rw [zst_ns (by decide), zst_ns (by decide), zst_eq, k3]
        · rw [zst_ns (by decide), zst_eq]
          unfold yV
          rw [k3, if_neg (by decide), if_pos rfl]

/-! law: words, signs, numbers -/
def zhl : List Int := [555, 249, 423, 1111, 10631, 13987, 380927, 243356, 125180, 220309, 1627639, 1628675, 91256359, 1902829, 2970796153, 24, 25, 923, 117630947, 9759276, 1890830, 459652]
def zhs (j : Nat) : Int := zhl.getD j 0
theorem zhs_h : ∀ j, j < 22 → yH (fun t => zch j (t : Int)) 0 (zsl_ j).toNat = zhs j ∧ 1 ≤ zsl_ j ∧ zsl_ j ≤ 7 ∧ ∀ t : Nat, t < 7 → (t : Int) < zsl_ j → 97 ≤ zch j (t : Int) ∧ zch j (t : Int) ≤ 122 := by decide +kernel
theorem yH_s {b : Nat → Int} {a l : Nat} (h : l < 10) : yH b a (l + 1) = yH b a l * 27 + (b (a + l) - 96) := by
  show (if _ then _ else _) = _
  rw [if_pos h]
theorem yH_n {b : Nat → Int} {a : Nat} : ∀ l, l ≤ 10 → (∀ t, t < l → 97 ≤ b (a + t) ∧ b (a + t) ≤ 122) → 0 ≤ yH b a l := by
  intro l
  induction l with
  | zero => intro _ _; exact Int.le_refl 0
  | succ l ih =>
    intro h1 h2
    have h3 := ih (by omega) (fun t ht => h2 t (by omega))
    have h4 := h2 l (by omega)
    rw [yH_s (by omega)]
    omega
theorem yH_inj {b b' : Nat → Int} {a a' : Nat} : ∀ l l', l ≤ 10 → l' ≤ 10 → (∀ t, t < l → 97 ≤ b (a + t) ∧ b (a + t) ≤ 122) → (∀ t, t < l' → 97 ≤ b' (a' + t) ∧ b' (a' + t) ≤ 122) → yH b a l = yH b' a' l' → l = l' ∧ ∀ t, t < l → b (a + t) = b' (a' + t) := by
  intro l
  induction l with
  | zero =>
    intro l' _ h2 _ h4 h5
    cases l' with
    | zero => exact ⟨rfl, fun t ht => by omega⟩
    | succ m =>
      have h6 := yH_n m (by omega) (fun t ht => h4 t (by omega))
      have h7 := h4 m (by omega)
      rw [yH_s (by omega)] at h5
      have h8 : yH b a 0 = 0 := rfl
      omega
  | succ l ih =>
    intro l' h1 h2 h3 h4 h5
    have h6 := yH_n l (by omega) (fun t ht => h3 t (by omega))
    have h7 := h3 l (by omega)
    rw [yH_s (by omega)] at h5
    cases l' with
    | zero =>
      have h8 : yH b' a' 0 = 0 := rfl
      omega
    | succ m =>
      have h8 := h4 m (by omega)
      rw [yH_s (by omega)] at h5
      obtain ⟨h9, h10⟩ := ih m (by omega) (by omega) (fun t ht => h3 t (by omega)) (fun t ht => h4 t (by omega)) (by omega)
      subst h9
      refine ⟨rfl, fun t ht => ?_⟩
      by_cases e : t = l
      · subst e; omega
      · exact h10 t (by omega)
theorem yH_c {b b' : Nat → Int} {a a' : Nat} : ∀ l, (∀ t, t < l → b (a + t) = b' (a' + t)) → yH b a l = yH b' a' l := by
  intro l
  induction l with
  | zero => intro _; rfl
  | succ l ih =>
    intro h
    show (if _ then _ else _) = (if _ then _ else _)
    rw [ih (fun t ht => h t (by omega)), h l (by omega)]
theorem yH_m {b : Nat → Int} {a l : Nat} (h : 10 < l) : yH b a l = -1 := by
  obtain ⟨m, rfl⟩ : ∃ m, l = m + 1 := ⟨l - 1, by omega⟩
  show (if _ then _ else _) = _
  rw [if_neg (by omega)]
abbrev wI (b : Nat → Int) (n x : Nat) (h : Int) : Prop := yK b n x = 1 ∧ yW b n x = h
abbrev wS (b : Nat → Int) (n x : Nat) (c : Int) : Prop := yK b n x = 3 ∧ yV b n x = c
abbrev wN (b : Nat → Int) (n x : Nat) (lo hi : Int) : Prop := yK b n x = 2 ∧ lo ≤ yV b n x ∧ yV b n x ≤ hi
theorem yK_1 {b : Nat → Int} {n x : Nat} (h : x ≤ n) (k : yK b n x = 1) : yA b n x < n ∧ ∀ t, t < yE b n x - yA b n x → 97 ≤ b (yA b n x + t) ∧ b (yA b n x + t) ≤ 122 := by
  have hA := yA_r (b := b) h
  by_cases c0 : n ≤ yA b n x
  · unfold yK at k; rw [if_pos c0] at k; omega
  · by_cases c1 : zLe (b (yA b n x)) = true
    · have e1 : yE b n x = zRn zLe b n (yA b n x) := by unfold yE; rw [if_neg c0, if_pos c1]
      have hr := zRn_r (p := zLe) (b := b) (n := n) _ (yA b n x) rfl hA.2
      rw [← e1] at hr
      exact ⟨by omega, fun t ht => zLe_i.1 (hr.2.2.1 _ (by omega) (by omega))⟩
    · unfold yK at k
      rw [if_neg c0, if_neg c1] at k
      split at k <;> omega
theorem yK_2 {b : Nat → Int} {n x : Nat} (h : x ≤ n) (k : yK b n x = 2) : yA b n x < n ∧ ∀ t, t < yE b n x - yA b n x → 48 ≤ b (yA b n x + t) ∧ b (yA b n x + t) ≤ 57 := by
  have hA := yA_r (b := b) h
  by_cases c0 : n ≤ yA b n x
  · unfold yK at k; rw [if_pos c0] at k; omega
  · by_cases c1 : zLe (b (yA b n x)) = true
    · unfold yK at k
      rw [if_neg c0, if_pos c1] at k
      omega
    · by_cases c2 : zDi (b (yA b n x)) = true
      · have e1 : yE b n x = zRn zDi b n (yA b n x) := by unfold yE; rw [if_neg c0, if_neg c1, if_pos c2]
        have hr := zRn_r (p := zDi) (b := b) (n := n) _ (yA b n x) rfl hA.2
        rw [← e1] at hr
        exact ⟨by omega, fun t ht => zDi_i.1 (hr.2.2.1 _ (by omega) (by omega))⟩
      · unfold yK at k
        rw [if_neg c0, if_neg c1, if_neg c2] at k
        omega
theorem yV_r {b : Nat → Int} {n x : Nat} (hb : zBy b) (hn : n ≤ 700) (h : x ≤ n) : 0 ≤ yV b n x ∧ yV b n x ≤ 10000 := by
  unfold yV
  by_cases k : yK b n x = 2
  · rw [if_pos k]
    have := yD_r (b := b) (a := yA b n x) (yE b n x - yA b n x) (yK_2 h k).2
    omega
  · rw [if_neg k]
    split
    · rename_i k3
      have hE := yE_r (b := b) h
      have := hb (yA b n x) (by have := hE.2.2.1 (by omega); omega)
      omega
    · omega
theorem yW_r {b : Nat → Int} {n x : Nat} (h : x ≤ n) : -1 ≤ yW b n x ∧ yW b n x ≤ 9223372036854775807 := by
  unfold yW
  by_cases k : yK b n x = 1
  · rw [if_pos k]
    have hd := (yK_1 h k).2
    by_cases c : yE b n x - yA b n x ≤ 10
    · have up : ∀ l, l ≤ 10 → (∀ t, t < l → 97 ≤ b (yA b n x + t) ∧ b (yA b n x + t) ≤ 122) → yH b (yA b n x) l < 27 ^ l := by
        intro l
        induction l with
        | zero => intro _ _; show (0 : Int) < 27 ^ 0; omega
        | succ l ih =>
          intro h1 h2
          have h3 := ih (by omega) (fun t ht => h2 t (by omega))
          have h4 := h2 l (by omega)
          rw [yH_s (by omega), Int.pow_succ]
          omega
      have h1 := yH_n _ c hd
      have h2 := up _ c hd
      have h3 : ∀ l, l ≤ 10 → (27 : Int) ^ l ≤ 205891132094649 := by decide
      have h4 := h3 _ c
      omega
    · rw [yH_m (by omega)]; omega
  · rw [if_neg k]; omega
theorem yT_1 {b : Nat → Int} {n x : Nat} {t : Int} (h : yT b n x t) : (t = 0 ↔ yK b n x = 0) ∧ (t = 1 ↔ yK b n x = 1) ∧ (t = 2 ↔ (yK b n x = 2 ∧ yE b n x - yA b n x ≤ 4)) ∧ (∀ c, ySg c → (t = c ↔ wS b n x c)) ∧ (0 ≤ t ∧ t ≤ 62) := by
  have hk := yK_r (b := b) (n := n) (x := x)
  obtain ⟨h0, h1, h2, h3⟩ := h
  unfold wS yV
  rcases hk with k | k | k | k
  · have := h0 k
    exact ⟨by omega, by omega, by omega, fun c hc => by unfold ySg at hc; omega, by omega⟩
  · have := h1 k
    exact ⟨by omega, by omega, by omega, fun c hc => by unfold ySg at hc; omega, by omega⟩
  · have := h2 k
    by_cases l : yE b n x - yA b n x ≤ 4
    · rw [if_pos l] at this
      exact ⟨by omega, by omega, by omega, fun c hc => by unfold ySg at hc; omega, by omega⟩
    · rw [if_neg l] at this
      exact ⟨by omega, by omega, by omega, fun c hc => by unfold ySg at hc; omega, by omega⟩
  · rw [k, if_neg (by decide), if_pos rfl]
    rcases h3 k with ⟨a, c⟩ | ⟨a, c⟩
    · unfold ySg at a
      exact ⟨by omega, by omega, by omega, fun c hc => by omega, by omega⟩
    · refine ⟨by omega, by omega, by omega, fun d hd => ⟨fun e => by unfold ySg at hd; omega, fun e => ?_⟩, by omega⟩
      rw [← e.2] at hd
      exact absurd hd a
/-- a number that is taken -/
theorem yT_n {b : Nat → Int} {n x : Nat} {t lo hi : Int} (hx : x ≤ n) (h : yT b n x t) (hh : hi < 10000) : (t = 2 ∧ lo ≤ yU b n x ∧ yU b n x ≤ hi ↔ wN b n x lo hi) ∧ (wN b n x lo hi → yU b n x = yV b n x) ∧ (0 ≤ yU b n x ∧ yU b n x ≤ 10000000) := by
  have h2 := (yT_1 h).2.2.1
  unfold wN yU yV
  by_cases k : yK b n x = 2
  · rw [if_pos k, if_pos k]
    have hd := yD_r (b := b) (a := yA b n x) (yE b n x - yA b n x) (yK_2 hx k).2
    have hr := yR_r (b := b) (a := yA b n x) (yE b n x - yA b n x) (yK_2 hx k).2
    by_cases l : yE b n x - yA b n x ≤ 4
    · have := hd.2.2.1 l
      exact ⟨by omega, fun _ => this.symm, hr⟩
    · have := hd.2.2.2.2 (by omega)
      exact ⟨by omega, fun _ => by omega, hr⟩
  · rw [if_neg k]
    exact ⟨by omega, fun h => absurd h.1 k, by omega⟩
theorem g6_isWord {i n x j : Nat} {M : zM} (hn : n ≤ 700) (hx : x ≤ n) (hb : zBy (M 3)) (ht : zTc (M 3) n x M) (hj : j < 22) : g_X6_isWord (zKn i) j M = some (if wI (M 3) n x (zhs j) then 1 else 0) := by
  obtain ⟨t1, t2, t3, _⟩ := ht
  have hE := yE_r (b := M 3) hx
  have hk := yK_r (b := M 3) (n := n) (x := x)
  obtain ⟨j1, j2, j3, j4⟩ := zhs_h j hj
  apply zO_get
  unfold g_X6_isWord
  rw [t1, t2, t3]
  by_cases k : yK (M 3) n x = 1
  · obtain ⟨ka, kd⟩ := yK_1 hx k
    refine zO_brn ⟨by omega, by omega⟩ ⟨by omega, by omega⟩ (by omega) (zO_b1e rfl ?_)
    have hw : yW (M 3) n x = yH (M 3) (yA (M 3) n x) (yE (M 3) n x - yA (M 3) n x) := by unfold yW; rw [if_pos k]
    have hd2 : ∀ t, t < (zsl_ j).toNat → 97 ≤ (fun t : Nat => zch j (t : Int)) (0 + t) ∧ (fun t : Nat => zch j (t : Int)) (0 + t) ≤ 122 := fun t ht => by
      dsimp only
      rw [Nat.zero_add]
      exact j4 t (by omega) (by omega)
    by_cases hl : yE (M 3) n x - yA (M 3) n x = (zsl_ j).toNat
    · refine zO_brp ⟨by omega, by omega⟩ ⟨by omega, by omega⟩ (by omega) (zO_sp0 ?_)
      refine zO_mono (zO_find (F := gb_X6_isWord_28 (zKn i) j M) (zsl_ j).toNat (fun t => M 3 (yA (M 3) n x + t) ≠ zch j (t : Int)) (fun _ => (Sum.inr 0 : Unit ⊕ Int)) (t := Sum.inl ()) ?_ ?_ ?_ (by omega) 0 (by omega)) ?_
      · intro t ht hp
        have := kd t (by omega)
        have h4 := j4 t (by omega) (by omega)
        apply zO_get
        rw [gb_X6_isWord_28, t1]
        refine zO_b1e rfl (zO_brn ⟨by omega, by omega⟩ ⟨by omega, by omega⟩ (by omega) (zO_gd (by omega) ?_))
        have hc : f_J0_charAt j (t : Int) M = some (zch j (t : Int)) := by
          apply zO_get
          unfold f_J0_charAt f_J1_charAt f_J0_chk f_J3_chk
          exact zO_b1 (zO_b1 (zO_brn ⟨by omega, by omega⟩ ⟨by omega, by omega⟩ (by omega) (zO_brp ⟨by omega, by omega⟩ ⟨by omega, by omega⟩ (by omega) (zO_some (zO_some (zO_gd (by omega) (zO_some rfl)))))))
        refine zO_b1e hc ?_
        simp only [show ((yA (M 3) n x : Int) + (t : Int)).toNat = yA (M 3) n x + t by omega]
        exact zO_brp ⟨by omega, by omega⟩ ⟨by omega, by omega⟩ (by omega) (zO_lt (zO_some (by rw [show ((t + 1 : Nat) : Int) = (t : Int) + 1 by omega])))
      · intro t ht hp
        have := kd t (by omega)
        have h4 := j4 t (by omega) (by omega)
        apply zO_get
        rw [gb_X6_isWord_28, t1]
        refine zO_b1e rfl (zO_brn ⟨by omega, by omega⟩ ⟨by omega, by omega⟩ (by omega) (zO_gd (by omega) ?_))
        have hc : f_J0_charAt j (t : Int) M = some (zch j (t : Int)) := by
          apply zO_get
          unfold f_J0_charAt f_J1_charAt f_J0_chk f_J3_chk
          exact zO_b1 (zO_b1 (zO_brn ⟨by omega, by omega⟩ ⟨by omega, by omega⟩ (by omega) (zO_brp ⟨by omega, by omega⟩ ⟨by omega, by omega⟩ (by omega) (zO_some (zO_some (zO_gd (by omega) (zO_some rfl)))))))
        refine zO_b1e hc ?_
        simp only [show ((yA (M 3) n x : Int) + (t : Int)).toNat = yA (M 3) n x + t by omega]
        exact zO_brn ⟨by omega, by omega⟩ ⟨by omega, by omega⟩ hp (zO_some rfl)
      · apply zO_get
        rw [gb_X6_isWord_28]
        exact zO_b1e rfl (zO_brp ⟨by omega, by omega⟩ ⟨by omega, by omega⟩ (by omega) (zO_some rfl))
      · rintro u (⟨t, _, h2, h3, _, rfl⟩ | ⟨h2, rfl⟩)
        · refine show zO _ _ from zO_some ?_
          rw [if_neg]
          rintro ⟨_, h4⟩
          rw [hw, ← j1] at h4
          have := (yH_inj _ _ (by omega) (by omega) kd hd2 h4).2 t (by omega)
          try dsimp only at this
          rw [Nat.zero_add] at this
          exact h3 this
        · refine show zO _ _ from zO_some ?_
          rw [if_pos]
          refine ⟨k, ?_⟩
          rw [hw, ← j1, hl]
          refine yH_c _ (fun t ht => ?_)
          have := h2 t (by omega) ht
          rw [Nat.zero_add]
          exact Decidable.byContradiction this
    · refine zO_brn ⟨by omega, by omega⟩ ⟨by omega, by omega⟩ (by omega) (zO_some ?_)
      rw [if_neg]
      rintro ⟨_, h4⟩
      rw [hw, ← j1] at h4
      by_cases c : yE (M 3) n x - yA (M 3) n x ≤ 10
      · exact hl (yH_inj _ _ c (by omega) kd hd2 h4).1
      · rw [yH_m (by omega)] at h4
        have := yH_n (b := fun t : Nat => zch j (t : Int)) (a := 0) (zsl_ j).toNat (by omega) hd2
        omega
  · refine zO_brp ⟨by omega, by omega⟩ ⟨by omega, by omega⟩ (by omega) (zO_some ?_)
    rw [if_neg (fun h => k h.1)]
theorem g6_isSign {i n x : Nat} {c : Int} {M : zM} (hn : n ≤ 700) (hx : x ≤ n) (hb : zBy (M 3)) (ht : zTc (M 3) n x M) (hc : 0 ≤ c ∧ c < 128) : g_X6_isSign (zKn i) c M = some (if wS (M 3) n x c then 1 else 0) := by
  obtain ⟨t1, t2, t3, t4⟩ := ht
  have hk := yK_r (b := M 3) (n := n) (x := x)
  have hv := yV_r hb hn hx
  apply zO_get
  unfold g_X6_isSign wS
  rw [t3, t4]
  refine zO_br ⟨by omega, by omega⟩ ⟨by omega, by omega⟩ (fun h => zO_some ?_) (fun h => zO_br ⟨by omega, by omega⟩ ⟨by omega, by omega⟩ (fun h' => zO_some ?_) (fun h' => zO_some ?_))
  · rw [if_neg (fun e => h e.1)]
  · rw [if_neg (fun e => h' e.2)]
  · rw [if_pos ⟨by omega, by omega⟩]
def wRule (h : Int) : Int := if h = 13987 then 0 else if h = 380927 then 1 else if h = 243356 then 2 else if h = 125180 then 3 else if h = 220309 then 4 else if h = 1627639 then 5 else if h = 1628675 then 6 else -1
def wAsk (h : Int) : Int := if h = 24 then 0 else if h = 25 then 1 else if h = 923 then 2 else if h = 117630947 then 3 else if h = 9759276 then 4 else if h = 1890830 then 5 else if h = 459652 then 6 else -1
def wHow (h : Int) : Int := if h = 91256359 then 0 else if h = 1902829 then 1 else if h = 2970796153 then 2 else -1
def yRule (b : Nat → Int) (n x : Nat) : Int := if yK b n x = 1 then wRule (yW b n x) else -1
def yAsk (b : Nat → Int) (n x : Nat) : Int := if yK b n x = 1 then wAsk (yW b n x) else -1
def yHow (b : Nat → Int) (n x : Nat) : Int := if yK b n x = 1 then wHow (yW b n x) else -1
def ySig (b : Nat → Int) (n x : Nat) : Int := if wS b n x 60 then 0 else if wS b n x 62 then 1 else if wS b n x 61 then 2 else -1
theorem yRule_r {b : Nat → Int} {n x : Nat} : -1 ≤ yRule b n x ∧ yRule b n x ≤ 6 ∧ (0 ≤ yRule b n x → yK b n x = 1) := by
  unfold yRule wRule
  repeat' split
  all_goals omega
theorem yAsk_r {b : Nat → Int} {n x : Nat} : -1 ≤ yAsk b n x ∧ yAsk b n x ≤ 6 ∧ (0 ≤ yAsk b n x → yK b n x = 1) := by
  unfold yAsk wAsk
  repeat' split
  all_goals omega
theorem yHow_r {b : Nat → Int} {n x : Nat} : -1 ≤ yHow b n x ∧ yHow b n x ≤ 2 ∧ (0 ≤ yHow b n x → yK b n x = 1) := by
  unfold yHow wHow
  repeat' split
  all_goals omega
theorem ySig_r {b : Nat → Int} {n x : Nat} : -1 ≤ ySig b n x ∧ ySig b n x ≤ 2 ∧ (0 ≤ ySig b n x → yK b n x = 3) := by
  unfold ySig
  repeat' split
  all_goals omega
/-- one word of a list that is asked one by one -/
theorem zO_ask {b : Nat → Int} {n x : Nat} {h : Int} {P : Int → Prop} {v : Int} {o : Option Int} (e : o = some (if wI b n x h then 1 else 0)) {X Y : Option Int} (hy : wI b n x h → zO Y P) (hn : ¬ wI b n x h → zO X P) : zO (zb1 o (fun v1 => zbr v1 0 (v1 = 0) X Y)) P := by
  refine zO_b1e e ?_
  by_cases c : wI b n x h
  · rw [if_pos c]; exact zO_brn (by omega) (by omega) (by omega) (hy c)
  · rw [if_neg c]; exact zO_brp (by omega) (by omega) (by omega) (hn c)
theorem g6_ruleWord {i n x : Nat} {M : zM} (hn : n ≤ 700) (hx : x ≤ n) (hb : zBy (M 3)) (ht : zTc (M 3) n x M) : g_X6_ruleWord (zKn i) M = some (yRule (M 3) n x) := by
  have w := fun j hj => g6_isWord (i := i) (j := j) hn hx hb ht hj
  apply zO_get
  unfold g_X6_ruleWord yRule wRule
  by_cases k : yK (M 3) n x = 1
  · rw [if_pos k]
    refine zO_ask (v := 0) (w 5 (by decide)) (fun h => zO_some ?_) (fun h5 => zO_ask (v := 0) (w 6 (by decide)) (fun h => zO_some ?_) (fun h6 => zO_ask (v := 0) (w 7 (by decide)) (fun h => zO_some ?_) (fun h7 => zO_ask (v := 0) (w 8 (by decide)) (fun h => zO_some ?_) (fun h8 => zO_ask (v := 0) (w 9 (by decide)) (fun h => zO_some ?_) (fun h9 => zO_ask (v := 0) (w 10 (by decide)) (fun h => zO_some ?_) (fun h10 => zO_ask (v := 0) (w 11 (by decide)) (fun h => zO_some ?_) (fun h11 => zO_some ?_)))))))
    all_goals simp only [wI, zhs, zhl, List.getD_cons_zero, List.getD_cons_succ, k, true_and] at *
    all_goals simp [*]
  · rw [if_neg k]
    exact zO_ask (v := 0) (w 5 (by decide)) (fun h => absurd h.1 k) (fun _ => zO_ask (v := 0) (w 6 (by decide)) (fun h => absurd h.1 k) (fun _ => zO_ask (v := 0) (w 7 (by decide)) (fun h => absurd h.1 k) (fun _ => zO_ask (v := 0) (w 8 (by decide)) (fun h => absurd h.1 k) (fun _ => zO_ask (v := 0) (w 9 (by decide)) (fun h => absurd h.1 k) (fun _ => zO_ask (v := 0) (w 10 (by decide)) (fun h => absurd h.1 k) (fun _ => zO_ask (v := 0) (w 11 (by decide)) (fun h => absurd h.1 k) (fun _ => zO_some rfl)))))))
theorem g6_askedWord {i n x : Nat} {M : zM} (hn : n ≤ 700) (hx : x ≤ n) (hb : zBy (M 3)) (ht : zTc (M 3) n x M) : g_X6_askedWord (zKn i) M = some (yAsk (M 3) n x) := by
  have w := fun j hj => g6_isWord (i := i) (j := j) hn hx hb ht hj
  apply zO_get
  unfold g_X6_askedWord yAsk wAsk
  by_cases k : yK (M 3) n x = 1
  · rw [if_pos k]
    refine zO_ask (v := 0) (w 15 (by decide)) (fun h => zO_some ?_) (fun h5 => zO_ask (v := 0) (w 16 (by decide)) (fun h => zO_some ?_) (fun h6 => zO_ask (v := 0) (w 17 (by decide)) (fun h => zO_some ?_) (fun h7 => zO_ask (v := 0) (w 18 (by decide)) (fun h => zO_some ?_) (fun h8 => zO_ask (v := 0) (w 19 (by decide)) (fun h => zO_some ?_) (fun h9 => zO_ask (v := 0) (w 20 (by decide)) (fun h => zO_some ?_) (fun h10 => zO_ask (v := 0) (w 21 (by decide)) (fun h => zO_some ?_) (fun h11 => zO_some ?_)))))))
    all_goals simp only [wI, zhs, zhl, List.getD_cons_zero, List.getD_cons_succ, k, true_and] at *
    all_goals simp [*]
  · rw [if_neg k]
    exact zO_ask (v := 0) (w 15 (by decide)) (fun h => absurd h.1 k) (fun _ => zO_ask (v := 0) (w 16 (by decide)) (fun h => absurd h.1 k) (fun _ => zO_ask (v := 0) (w 17 (by decide)) (fun h => absurd h.1 k) (fun _ => zO_ask (v := 0) (w 18 (by decide)) (fun h => absurd h.1 k) (fun _ => zO_ask (v := 0) (w 19 (by decide)) (fun h => absurd h.1 k) (fun _ => zO_ask (v := 0) (w 20 (by decide)) (fun h => absurd h.1 k) (fun _ => zO_ask (v := 0) (w 21 (by decide)) (fun h => absurd h.1 k) (fun _ => zO_some rfl)))))))
theorem g6_howWord {i n x : Nat} {M : zM} (hn : n ≤ 700) (hx : x ≤ n) (hb : zBy (M 3)) (ht : zTc (M 3) n x M) : g_X6_howWord (zKn i) M = some (yHow (M 3) n x) := by
  have w := fun j hj => g6_isWord (i := i) (j := j) hn hx hb ht hj
  apply zO_get
  unfold g_X6_howWord yHow wHow
  by_cases k : yK (M 3) n x = 1
  · rw [if_pos k]
    refine zO_ask (v := 0) (w 12 (by decide)) (fun h => zO_some ?_) (fun h5 => zO_ask (v := 0) (w 13 (by decide)) (fun h => zO_some ?_) (fun h6 => zO_ask (v := 0) (w 14 (by decide)) (fun h => zO_some ?_) (fun h7 => zO_some ?_)))
    all_goals simp only [wI, zhs, zhl, List.getD_cons_zero, List.getD_cons_succ, k, true_and] at *
    all_goals simp [*]
  · rw [if_neg k]
    exact zO_ask (v := 0) (w 12 (by decide)) (fun h => absurd h.1 k) (fun _ => zO_ask (v := 0) (w 13 (by decide)) (fun h => absurd h.1 k) (fun _ => zO_ask (v := 0) (w 14 (by decide)) (fun h => absurd h.1 k) (fun _ => zO_some rfl)))
theorem g6_comparingSign {i n x : Nat} {M : zM} (hn : n ≤ 700) (hx : x ≤ n) (hb : zBy (M 3)) (ht : zTc (M 3) n x M) : g_X6_comparingSign (zKn i) M = some (ySig (M 3) n x) := by
  have w := fun c hc => g6_isSign (i := i) (c := c) hn hx hb ht hc
  apply zO_get
  unfold g_X6_comparingSign ySig
  refine zO_b1e (w 60 (by omega)) ?_
  by_cases c1 : wS (M 3) n x 60
  · rw [if_pos c1, if_pos c1]; exact zO_brn (by omega) (by omega) (by omega) (zO_some rfl)
  · rw [if_neg c1, if_neg c1]
    refine zO_brp (by omega) (by omega) (by omega) (zO_b1e (w 62 (by omega)) ?_)
    by_cases c2 : wS (M 3) n x 62
    · rw [if_pos c2, if_pos c2]; exact zO_brn (by omega) (by omega) (by omega) (zO_some rfl)
    · rw [if_neg c2, if_neg c2]
      refine zO_brp (by omega) (by omega) (by omega) (zO_b1e (w 61 (by omega)) ?_)
      by_cases c3 : wS (M 3) n x 61
      · rw [if_pos c3, if_pos c3]; exact zO_brn (by omega) (by omega) (by omega) (zO_some rfl)
      · rw [if_neg c3, if_neg c3]; exact zO_brp (by omega) (by omega) (by omega) (zO_some rfl)

/-! own judgement zV: the machine over a memory of whole numbers -/
abbrev zM : Type := Nat → Nat → Int
abbrev zK : Type := Nat → Nat × Nat × (Nat → Nat)
abbrev zW : Type := zK × (Nat → Nat) × va_G × (Nat → ClassId)
def iv (z : Int) : Value := .int (Int32.ofInt z)
def jv (z : Int) : Value := .long (Int64.ofInt z)
def rn (w : zW) (r : Nat) : Value := .ref (w.2.1 r)
def rv (w : zW) (r : Nat) : Value := if r = 0 then .null else .ref (w.2.1 r)
def ztag (k : zK) (r : Nat) : Nat := (k r).1
def zlen (k : zK) (r : Nat) : Nat := (k r).2.1
def zfr (k : zK) (r s : Nat) : Nat := (k r).2.2 s
def zst (M : zM) (r s : Nat) (v : Int) : zM := fun a b => if a = r ∧ b = s then v else M a b
abbrev zr (a : Int) : Prop := -2147483648 ≤ a ∧ a ≤ 2147483647
abbrev zrl (a : Int) : Prop := -9223372036854775808 ≤ a ∧ a ≤ 9223372036854775807
def zgd {τ : Type} (c : Prop) [Decidable c] (X : Option τ) : Option τ := if c then X else none
def zbr {τ : Type} (a b : Int) (c : Prop) [Decidable c] (X Y : Option τ) : Option τ := if zr a ∧ zr b then (if c then X else Y) else none
def zbl {τ : Type} (a b : Int) (c : Prop) [Decidable c] (X Y : Option τ) : Option τ := if zrl a ∧ zrl b then (if c then X else Y) else none
def zlt {α τ : Type} (e : α) (X : α → Option τ) : Option τ := X e
def zbd {α β τ : Type} (o : Option (α × β)) (X : α → β → Option τ) : Option τ := match o with
  | none => none
  | some (a, b) => X a b
def zb1 {α τ : Type} (o : Option α) (X : α → Option τ) : Option τ := match o with
  | none => none
  | some a => X a
/-- a part that goes on, or whose method has returned -/
def zs1 {α ρ τ : Type} (o : Option (α ⊕ ρ)) (Y : ρ → Option τ) (X : α → Option τ) : Option τ := match o with
  | none => none
  | some (.inl a) => X a
  | some (.inr r) => Y r
/-- a loop: its body says 'once more' with a new state, or how it ends -/
def zwh {σ τ : Type} (F : σ → Option (σ ⊕ τ)) : Nat → σ → Option τ
  | 0, _ => none
  | n + 1, s => match F s with
    | none => none
    | some (.inl s') => zwh F n s'
    | some (.inr t) => some t
def zfu : Nat := 1000000
def ztb : List (List (Nat × Nat × Nat)) := [[(1, 0, 0)],
  [(2, 21, 256), (2, 20, 256)],
  [(2, 20, 256), (2, 20, 256), (2, 20, 256), (2, 20, 256), (2, 20, 256), (2, 20, 256), (2, 20, 256), (2, 20, 256), (2, 20, 256), (2, 20, 200), (2, 20, 8)],
  [(0, 0, 0), (0, 0, 0), (2, 20, 40), (2, 20, 40), (2, 20, 40), (2, 20, 40), (2, 20, 700), (0, 0, 0), (2, 20, 100), (2, 20, 100), (2, 21, 100), (2, 21, 100), (2, 20, 100), (0, 0, 0), (2, 20, 3)],
  [(2, 20, 100), (2, 22, 25600), (2, 20, 100)],
  [(1, 0, 0), (1, 0, 0)],
  [(2, 20, 700), (0, 0, 0), (0, 0, 0), (0, 0, 0), (0, 0, 0), (0, 0, 0), (0, 0, 0), (0, 0, 0)],
  [(2, 20, 256), (2, 20, 256), (2, 20, 256), (2, 20, 256), (2, 20, 16), (2, 20, 16), (2, 20, 60), (2, 20, 60), (2, 20, 60), (2, 20, 60), (2, 20, 10), (2, 20, 40), (2, 20, 40), (2, 20, 40), (2, 20, 40), (0, 0, 0), (0, 0, 0), (0, 0, 0), (0, 0, 0), (0, 0, 0)],
  [(2, 21, 256), (2, 20, 256), (2, 3, 0), (2, 20, 256), (2, 20, 8), (2, 20, 16), (0, 0, 0)],
  [(2, 20, 10), (1, 0, 0), (2, 20, 10), (2, 23, 70), (0, 0, 0), (0, 0, 0), (0, 0, 0)],
  [(2, 7, 0), (2, 8, 0), (2, 24, 3), (2, 9, 0), (2, 3, 0), (2, 5, 0), (2, 2, 0), (2, 10, 0), (2, 6, 0), (2, 20, 3), (3, 4, 0), (3, 4, 0), (0, 0, 0), (0, 0, 0), (0, 0, 0)],
  [(2, 20, 3), (2, 20, 4), (2, 20, 4), (2, 20, 4), (2, 20, 4), (2, 20, 1024), (2, 20, 1024), (2, 20, 1024), (2, 20, 1024), (2, 20, 320), (2, 20, 240), (2, 20, 240), (2, 20, 240), (2, 20, 240), (2, 20, 40), (2, 20, 160), (2, 20, 160), (2, 20, 160), (2, 21, 320), (2, 21, 160), (0, 0, 0), (2, 20, 2), (2, 20, 80), (2, 20, 80), (2, 20, 80), (2, 20, 80), (2, 20, 80), (2, 20, 80), (0, 0, 0), (2, 20, 2000), (2, 20, 2000), (2, 20, 2000), (2, 20, 2000), (2, 22, 700), (0, 0, 0), (0, 0, 0), (0, 0, 0), (0, 0, 0), (0, 0, 0), (0, 0, 0), (0, 0, 0), (1, 0, 0), (0, 0, 0), (2, 20, 12), (2, 20, 12), (0, 0, 0), (2, 20, 7), (2, 21, 300), (0, 0, 0), (0, 0, 0), (2, 20, 256), (2, 20, 256), (2, 20, 256), (2, 20, 256), (2, 20, 256), (2, 21, 256), (2, 21, 256), (2, 20, 256), (2, 20, 256), (1, 0, 0), (1, 0, 0), (0, 0, 0), (0, 0, 0), (1, 0, 0), (1, 0, 0), (2, 21, 256), (2, 20, 10), (2, 20, 10), (2, 20, 10), (2, 20, 256), (1, 0, 0), (2, 20, 16), (2, 20, 16)]]
def zft (c s : Nat) : Nat := ((ztb.getD c []).getD s (0, 0, 0)).1
def zgt (c s : Nat) : Nat := ((ztb.getD c []).getD s (0, 0, 0)).2.1
def zgl (c s : Nat) : Nat := ((ztb.getD c []).getD s (0, 0, 0)).2.2
def znf (c : Nat) : Nat := (ztb.getD c []).length
def znt : List (String × Nat × MethodName × String) := [(RX10, 9, yX6_init, "DrownedLand"), (RX10, 29, yX8_init, "DrownedLand"), (RX10, 41, yX4_init, "DrownedLand"), (RX10, 48, yX1_init, "DrownedLand"), (RX10, 55, yX9_init, "DrownedLand"), (RX10, 62, yX5_init, "DrownedLand"), (RX10, 73, yX3_init, "DrownedLand"), (RX1, 19, yX10_beside, "DrownedLand"), (RX2, 74, yX10_beside, "DrownedLand"), (RX2, 77, yX10_isCell, "DrownedLand"), (RX8, 21, yX2_init, "DrownedLand"), (RX8, 46, yX10_beside, "DrownedLand")]
def zsr : List (Nat × String × Nat) := [(77, "to", 0), (99, "if", 1), (110, "or", 2), (119, "and", 3), (121, "not", 4), (143, "sea", 5), (145, "sink", 6), (147, "live", 7), (149, "fish", 8), (151, "keep", 9), (153, "carry", 10), (155, "catch", 11), (157, "fished", 12), (159, "cored", 13), (161, "grabbed", 14), (163, "x", 15), (165, "y", 16), (167, "age", 17), (169, "height", 18), (171, "river", 19), (173, "coast", 20), (175, "wind", 21)]
def zsn : Nat := 22
def zsl : List Nat := [2, 2, 2, 3, 3, 3, 4, 4, 4, 4, 5, 5, 6, 5, 7, 1, 1, 3, 6, 5, 5, 4]
def zsb : List (List Int32) := [[116, 111], [105, 102], [111, 114], [97, 110, 100], [110, 111, 116], [115, 101, 97], [115, 105, 110, 107], [108, 105, 118, 101], [102, 105, 115, 104], [107, 101, 101, 112], [99, 97, 114, 114, 121], [99, 97, 116, 99, 104], [102, 105, 115, 104, 101, 100], [99, 111, 114, 101, 100], [103, 114, 97, 98, 98, 101, 100], [120], [121], [97, 103, 101], [104, 101, 105, 103, 104, 116], [114, 105, 118, 101, 114], [99, 111, 97, 115, 116], [119, 105, 110, 100]]
abbrev zcl : List vw_C := [(RX0, TX0, 1), (RX1, TX1, 2), (RX2, TX2, 11), (RX3, TX3, 15), (RX4, TX4, 3), (RX5, TX5, 2), (RX6, TX6, 8), (RX7, TX7, 20), (RX8, TX8, 7), (RX9, TX9, 7), (RX10, TX10, 15), (RX11, TX11, 73)]
def zfv (w : zW) (M : zM) (r c s : Nat) : Value := match zft c s with
  | 0 => iv (M r s)
  | 1 => jv (M r s)
  | 2 => rn w (zfr w.1 r s)
  | _ => rv w (M r s).toNat
def zav (w : zW) (M : zM) (r t j : Nat) : Value := if t = 23 then jv (M r j) else if t = 24 then rv w (M r j).toNat else iv (M r j)
def zok (w : zW) (M : zM) (H : Heap) (r : Nat) : Prop :=
  if ztag w.1 r ≤ 12 then t_OB (w.2.1 r) (w.2.2.1.1 (ztag w.1 r - 1)) (znf (ztag w.1 r - 1)) (w.2.2.1.2 (ztag w.1 r - 1)) H (zfv w M r (ztag w.1 r - 1))
  else H[w.2.1 r]? = some (arrV (w.2.2.2 (ztag w.1 r)) (zlen w.1 r) (zav w M r (ztag w.1 r)))
def zHp (w : zW) (M : zM) (H : Heap) : Prop := ∀ r, ztag w.1 r ≠ 0 → zok w M H r
/-- final references go where their fields say -/
def zTy (k : zK) : Prop := ztag k 0 = 0 ∧ ∀ r c s, ztag k r = c + 1 → s < znf c → zft c s = 2 → ztag k (zfr k r s) = zgt c s ∧ zlen k (zfr k r s) = zgl c s
def zWk (w : zW) : Prop := zTy w.1 ∧ ∀ r q, ztag w.1 r ≠ 0 → ztag w.1 q ≠ 0 → w.2.1 r = w.2.1 q → r = q
def ztys (w : zW) : List (ClassId × FieldType) := [(w.2.2.2 20, .int), (w.2.2.2 21, .boolean), (w.2.2.2 22, .byte), (w.2.2.2 23, .long), (w.2.2.2 24, .object "DrownedLand$Told")]
def zT : List Cond := lw_tbl.filter goodWord
theorem zmT {x : Cond} (h : x ∈ lw_tbl) (hg : goodWord x = true) : x ∈ zT := List.mem_filter.mpr ⟨h, hg⟩
/-- what stands beside the heap: classes, nest mates' links, texts -/
def zEv (w : zW) (A : Nat → Prop) (U : State) : Prop := va_K w.2.2.1 zcl (ztys w) U ∧ (∀ q ∈ znt, va_Nw (.methodLinkNest q.1 q.2.1 q.2.2.1 q.2.2.2) U) ∧ (∀ q ∈ zsr, vk_R RX6 q.1 q.2.1 (w.2.1 (1000000 + q.2.2)) U) ∧ vk_S zsn zsl zsb (fun i => w.2.1 (1000000 + i)) (fun i => w.2.1 (2000000 + i)) A U U.heap ∧ va_Z "java/lang/String" "COMPACT_STRINGS" "Z" (.int 1) A U U.heap ∧ va_Zq "jdk/internal/util/Preconditions" "SIOOBE_FORMATTER" "Ljava/util/function/BiFunction;" A U U.heap
abbrev zC : Type := Program × Launch × Env × Room × State × MethodId × Array Value × List Frame × Method × Code × (Nat → Prop) × (Array Value → State → Outcome → State → Prop) × Nat × Nat
def zCx (bs : ByteArray) (own : String) (nL : Nat) (ret : Option FieldType) (κ : zC) (w : zW) (n : Nat × Nat × Nat) : Prop := match κ with
  | (p, _, _, R, s, m, args, _, meth, c, A, _, _, _) => p.tables.exec = Jvm.exec ∧ c.code = bs ∧ c.maxLocals = nL ∧ s.vm.findClass own = some m.cls ∧ (∀ x ∈ zT, x.before args s = true) ∧ meth.sig.returnType = ret ∧ meth.locks = false ∧ zEv w A s ∧ zWk w ∧ (∀ r, ztag w.1 r ≠ 0 → A (w.2.1 r)) ∧ (∀ q : Nat, s.heap.size ≤ q → A q) ∧ n.2.2 ≤ R.frames ∧ 60 * n.2.2 ≤ R.locals ∧ n.1 ≤ R.cells ∧ n.2.1 ≤ R.slots
def zB (bs : ByteArray) (own : String) (nL : Nat) (ret : Option FieldType) (κ : zC) (w : zW) (n : Nat × Nat × Nat) (pc : Nat) (L : List (Nat × Value)) (S : List Value) (M : zM) : Prop := zCx bs own nL ret κ w n → match κ with
  | (p, l, e, R, s, m, args, below, meth, c, A, Qc, mc, ms) => ∀ (H : Heap) (locs : List Loc) (ls : Array Slot), zHp w M H → va_S A s.heap H locs → lv_has ls nL L → W p l e R s m args below meth c H locs n.1 n.2.1 (MQ below Qc args s mc ms A) (F0 m pc ls S)
def zV {τ : Type} (bs : ByteArray) (own : String) (nL : Nat) (ret : Option FieldType) (κ : zC) (w : zW) (n : Nat × Nat × Nat) (pc : Nat) (L : List (Nat × Value)) (S : List Value) (M : zM) (o : Option τ) (E : τ → Prop) : Prop := ∀ t, o = some t → E t → zB bs own nL ret κ w n pc L S M
section zR
variable {τ : Type} {bs : ByteArray} {own : String} {nL : Nat} {ret : Option FieldType} {κ : zC} {w : zW} {n : Nat × Nat × Nat} {pc pc' : Nat} {L L' : List (Nat × Value)} {S S' : List Value} {M : zM} {o : Option τ} {E : τ → Prop}
theorem zv_w (h : ∀ (p : Program) (l : Launch) (e : Env) (R : Room) (s : State) (m : MethodId) (args : Array Value) (below : List Frame) (meth : Method) (c : Code) (H : Heap) (locs : List Loc) (cells slots : Nat) (Q : State → Prop) (ls : Array Slot), p.tables.exec = Jvm.exec → c.code = bs → (∀ x ∈ zT, x.before args s = true) → s.vm.findClass own = some m.cls → lv_has ls nL L → W p l e R s m args below meth c H locs cells slots Q (F0 m pc' ls S') → W p l e R s m args below meth c H locs cells slots Q (F0 m pc ls S))
    (k : zV bs own nL ret κ w n pc' L S' M o E) : zV bs own nL ret κ w n pc L S M o E := by
  intro t ho hE
  have k := k t ho hE
  obtain ⟨p, l, e, R, s, m, args, below, meth, c, A, Qc, mc, ms⟩ := κ
  intro C H locs ls hH hS hl
  exact h _ _ _ _ _ _ _ _ _ _ _ _ _ _ _ _ C.1 C.2.1 C.2.2.2.2.1 C.2.2.2.1 hl (k C H locs ls hH hS hl)
/-- the same, with new locals -/
theorem zv_wl (h : ∀ (p : Program) (l : Launch) (e : Env) (R : Room) (s : State) (m : MethodId) (args : Array Value) (below : List Frame) (meth : Method) (c : Code) (H : Heap) (locs : List Loc) (cells slots : Nat) (Q : State → Prop) (ls : Array Slot), p.tables.exec = Jvm.exec → c.code = bs → lv_has ls nL L → (∀ ls', lv_has ls' nL L' → W p l e R s m args below meth c H locs cells slots Q (F0 m pc' ls' S')) → W p l e R s m args below meth c H locs cells slots Q (F0 m pc ls S))
    (k : zV bs own nL ret κ w n pc' L' S' M o E) : zV bs own nL ret κ w n pc L S M o E := by
  intro t ho hE
  have k := k t ho hE
  obtain ⟨p, l, e, R, s, m, args, below, meth, c, A, Qc, mc, ms⟩ := κ
  intro C H locs ls hH hS hl
  exact h _ _ _ _ _ _ _ _ _ _ _ _ _ _ _ _ C.1 C.2.1 hl (fun ls' hl' => k C H locs ls' hH hS hl')
theorem zv_none : zV bs own nL ret κ w n pc L S M (none : Option τ) E := fun _ h => by cases h
theorem zv_sub (ks : List Nat) (h : lv_pick L ks = L') (k : zV bs own nL ret κ w n pc L' S M o E) : zV bs own nL ret κ w n pc L S M o E := by
  intro t ho hE
  have k := k t ho hE
  obtain ⟨p, l, e, R, s, m, args, below, meth, c, A, Qc, mc, ms⟩ := κ
  intro C H locs ls hH hS hl
  exact k C H locs ls hH hS (lv_sub hl ks h)
/-- a part's end: where it goes on is what its E says -/
theorem zv_exit {σ : Type} {x : σ} {E : σ → Prop} (h : E x → zB bs own nL ret κ w n pc L S M) : zV bs own nL ret κ w n pc L S M (some x) E := fun t ht hE => h (by cases ht; exact hE)
theorem zv_gd {c : Prop} [Decidable c] (k : c → zV bs own nL ret κ w n pc L S M o E) : zV bs own nL ret κ w n pc L S M (zgd c o) E := by
  intro t ho hE
  unfold zgd at ho
  split at ho
  · rename_i hc
    exact k hc t ho hE
  · cases ho
theorem zv_lt {α : Type} {e : α} {X : α → Option τ} (k : ∀ x, zV bs own nL ret κ w n pc L S M (X x) E) : zV bs own nL ret κ w n pc L S M (zlt e X) E := k e
theorem zv_seq1 {α : Type} {o1 : Option α} {X : α → Option τ} {E1 : α → Prop} (h1 : zV bs own nL ret κ w n pc L S M o1 E1) (h2 : ∀ a, X a ≠ none → (∀ t, X a = some t → E t → E1 a)) : zV bs own nL ret κ w n pc L S M (zb1 o1 X) E := by
  intro t ho hE
  cases ho1 : o1 with
  | none => rw [ho1] at ho; cases ho
  | some a =>
    rw [ho1] at ho
    exact h1 a ho1 (h2 a (by intro q; rw [show zb1 (some a) X = X a from rfl, q] at ho; cases ho) t ho hE)
theorem zv_seqS {α ρ : Type} {o1 : Option (α ⊕ ρ)} {Y : ρ → Option τ} {X : α → Option τ} {E1 : α ⊕ ρ → Prop} (h1 : zV bs own nL ret κ w n pc L S M o1 E1) (h2 : ∀ a t, X a = some t → E t → E1 (.inl a)) (h3 : ∀ r t, Y r = some t → E t → E1 (.inr r)) : zV bs own nL ret κ w n pc L S M (zs1 o1 Y X) E := by
  intro t ho hE
  cases ho1 : o1 with
  | none => rw [ho1] at ho; cases ho
  | some a =>
    rw [ho1] at ho
    cases a with
    | inl a => exact h1 _ ho1 (h2 a t ho hE)
    | inr r => exact h1 _ ho1 (h3 r t ho hE)
end zR
def zEl {σ τ : Type} (P : σ → Prop) (E : τ → Prop) (u : σ ⊕ τ) : Prop := match u with
  | .inl s => P s
  | .inr t => E t
theorem zwh_z {σ τ : Type} (F : σ → Option (σ ⊕ τ)) (s : σ) : zwh F 0 s = none := rfl
theorem zwh_s {σ τ : Type} (F : σ → Option (σ ⊕ τ)) (n : Nat) (s : σ) : zwh F (n + 1) s = match F s with | none => none | some (.inl s') => zwh F n s' | some (.inr t) => some t := rfl
section zR2
variable {τ σ : Type} {bs : ByteArray} {own : String} {nL : Nat} {ret : Option FieldType} {κ : zC} {w : zW} {n : Nat × Nat × Nat} {pc pc' : Nat} {S : List Value} {E : τ → Prop}
/-- a loop, by its body alone -/
theorem zv_while {F : σ → Option (σ ⊕ τ)} {Lh : σ → List (Nat × Value)} {Mh : σ → zM} (h : ∀ s, zV bs own nL ret κ w n pc (Lh s) S (Mh s) (F s) (zEl (fun s' => zB bs own nL ret κ w n pc (Lh s') S (Mh s')) E)) : ∀ (N : Nat) (s : σ), zV bs own nL ret κ w n pc (Lh s) S (Mh s) (zwh F N s) E := by
  intro N
  induction N with
  | zero => intro s t ho; cases ho
  | succ N ih =>
    intro s t ho hE
    rw [zwh_s] at ho
    cases hF : F s with
    | none => rw [hF] at ho; cases ho
    | some u =>
      rw [hF] at ho
      cases u with
      | inl s' => exact h s _ hF (ih s' t ho hE)
      | inr t' => exact h s _ hF (by cases ho; exact hE)
end zR2
theorem zEv_blind {w : zW} {A : Nat → Prop} {U : State} {g : JFrame} {mk : MethodId} {a : Array Value} (h : zEv w A U) : zEv w A (U.calling g mk a) := ⟨va_K.moved (u := U) (U := U.calling g mk a) (Vm.Alike.refl U.vm) h.1, fun q hq => va_Nw.same rfl rfl (h.2.1 q hq), fun q hq => vk_R.same rfl (h.2.2.1 q hq), vk_S.moved (u := U) (U := U.calling g mk a) (Vm.Alike.refl U.vm) h.2.2.2.1, va_Z.moved (u := U) (U := U.calling g mk a) (Vm.Alike.refl U.vm) h.2.2.2.2.1, va_Zq.moved (u := U) (U := U.calling g mk a) (Vm.Alike.refl U.vm) h.2.2.2.2.2⟩
theorem zEv_call {w : zW} {A B : Nat → Prop} {s U : State} {H : Heap} {locs : List Loc} (h : zEv w A s) (hS : va_S A s.heap H locs) (hB : ∀ q, B q → A q) (hU : U.heap = H) (hW : s.WarmedH U.vm) : zEv w B U := by
  refine ⟨va_K.moved hW.alike h.1, fun q hq => va_Nw.warmM hW (h.2.1 q hq), fun q hq => vk_R.warm hW (h.2.2.1 q hq), ?_, ?_, ?_⟩ <;> rw [hU]
  · exact vk_S.moved hW.alike (vk_S.narrow (vk_S.kept h.2.2.2.1 (fun a h1 h2 => hS.2.1 a h1 h2)) hB)
  · exact va_Z.moved hW.alike (va_Z.narrow (va_Z.kept h.2.2.2.2.1 (fun a h1 h2 => hS.2.1 a h1 h2)) hB)
  · exact va_Zq.moved hW.alike (va_Zq.narrow (va_Zq.kept h.2.2.2.2.2 (fun a h1 h2 => hS.2.1 a h1 h2)) hB)

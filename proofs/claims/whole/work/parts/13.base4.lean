/-! arrays, calls, returns -/
section zA
variable {τ : Type} {bs : ByteArray} {own : String} {nL : Nat} {ret : Option FieldType} {κ : zC} {w : zW} {n : Nat × Nat × Nat} {pc : Nat} {L : List (Nat × Value)} {S : List Value} {M : zM} {o : Option τ} {E : τ → Prop}
theorem zv_iald {r : Nat} {i len : Int} (d : decode bs pc = .ok (.iaload, 1)) (hr : ztag w.1 r = 20) (hL : ((zlen w.1 r : Nat) : Int) = len) (hb : len ≤ 2147483647) (k : zV bs own nL ret κ w n (pc + 1) L (iv (M r i.toNat) :: S) M o E) : zV bs own nL ret κ w n pc L (iv i :: rn w r :: S) M (zgd (0 ≤ i ∧ i < len) o) E := zv_gd fun hg => by
  intro t ho hE
  have k := k t ho hE
  obtain ⟨p, l, e, R, st, m, args, below, meth, cd, A, Qc, mc, ms⟩ := κ
  intro X H locs ls hH hS hl
  have ha := zok_arr (hH r (by rw [hr]; decide)) hr (by decide)
  have hz := zix (n := zlen w.1 r) (by rw [hL]; exact hg) (by omega)
  have hK := X.2.2.2.2.2.2.2.1.1
  refine W.iald X.1 X.2.1 ha ((hK.2 0 (w.2.2.2 20, .int) rfl).1 _ _) (fun q => by cases q) (by rw [arrV_size]; exact hz.1) (v := iv (M r i.toNat)) ?_ rfl rfl d (k X H locs ls hH hS hl)
  rw [hz.2, arrV_read _ _ (by omega)]
  rfl
theorem zv_zald {r : Nat} {i len : Int} (d : decode bs pc = .ok (.baload, 1)) (hr : ztag w.1 r = 21) (hL : ((zlen w.1 r : Nat) : Int) = len) (hb : len ≤ 2147483647) (k : zV bs own nL ret κ w n (pc + 1) L (iv (M r i.toNat) :: S) M o E) : zV bs own nL ret κ w n pc L (iv i :: rn w r :: S) M (zgd (0 ≤ i ∧ i < len) o) E := zv_gd fun hg => by
  intro t ho hE
  have k := k t ho hE
  obtain ⟨p, l, e, R, st, m, args, below, meth, cd, A, Qc, mc, ms⟩ := κ
  intro X H locs ls hH hS hl
  have ha := zok_arr (hH r (by rw [hr]; decide)) hr (by decide)
  have hz := zix (n := zlen w.1 r) (by rw [hL]; exact hg) (by omega)
  have hK := X.2.2.2.2.2.2.2.1.1
  refine W.zald X.1 X.2.1 ha ((hK.2 1 (w.2.2.2 21, .boolean) rfl).1 _ _) (fun q => by cases q) (by rw [arrV_size]; exact hz.1) (v := iv (M r i.toNat)) ?_ rfl rfl d (k X H locs ls hH hS hl)
  rw [hz.2, arrV_read _ _ (by omega)]
  rfl
theorem zv_bald {r : Nat} {i len : Int} (d : decode bs pc = .ok (.baload, 1)) (hr : ztag w.1 r = 22) (hL : ((zlen w.1 r : Nat) : Int) = len) (hb : len ≤ 2147483647) (k : zV bs own nL ret κ w n (pc + 1) L (iv (M r i.toNat) :: S) M o E) : zV bs own nL ret κ w n pc L (iv i :: rn w r :: S) M (zgd (0 ≤ i ∧ i < len) o) E := zv_gd fun hg => by
  intro t ho hE
  have k := k t ho hE
  obtain ⟨p, l, e, R, st, m, args, below, meth, cd, A, Qc, mc, ms⟩ := κ
  intro X H locs ls hH hS hl
  have ha := zok_arr (hH r (by rw [hr]; decide)) hr (by decide)
  have hz := zix (n := zlen w.1 r) (by rw [hL]; exact hg) (by omega)
  have hK := X.2.2.2.2.2.2.2.1.1
  refine W.bald X.1 X.2.1 ha ((hK.2 2 (w.2.2.2 22, .byte) rfl).1 _ _) (fun q => by cases q) (by rw [arrV_size]; exact hz.1) (v := iv (M r i.toNat)) ?_ rfl rfl d (k X H locs ls hH hS hl)
  rw [hz.2, arrV_read _ _ (by omega)]
  rfl
theorem zv_lald {r : Nat} {i len : Int} (d : decode bs pc = .ok (.laload, 1)) (hr : ztag w.1 r = 23) (hL : ((zlen w.1 r : Nat) : Int) = len) (hb : len ≤ 2147483647) (k : zV bs own nL ret κ w n (pc + 1) L (jv (M r i.toNat) :: S) M o E) : zV bs own nL ret κ w n pc L (iv i :: rn w r :: S) M (zgd (0 ≤ i ∧ i < len) o) E := zv_gd fun hg => by
  intro t ho hE
  have k := k t ho hE
  obtain ⟨p, l, e, R, st, m, args, below, meth, cd, A, Qc, mc, ms⟩ := κ
  intro X H locs ls hH hS hl
  have ha := zok_arr (hH r (by rw [hr]; decide)) hr (by decide)
  have hz := zix (n := zlen w.1 r) (by rw [hL]; exact hg) (by omega)
  have hK := X.2.2.2.2.2.2.2.1.1
  refine W.lald X.1 X.2.1 ha ((hK.2 3 (w.2.2.2 23, .long) rfl).1 _ _) (fun q => by cases q) (by rw [arrV_size]; exact hz.1) (v := jv (M r i.toNat)) ?_ rfl rfl d (k X H locs ls hH hS hl)
  rw [hz.2, arrV_read _ _ (by omega)]
  rfl
theorem zv_iast {r : Nat} {i len z : Int} {X : zM → Option τ} (d : decode bs pc = .ok (.iastore, 1)) (hr : ztag w.1 r = 20) (hL : ((zlen w.1 r : Nat) : Int) = len) (hb : len ≤ 2147483647) (k : ∀ M', zV bs own nL ret κ w n (pc + 1) L S M' (X M') E) : zV bs own nL ret κ w n pc L (iv z :: iv i :: rn w r :: S) M (zgd (0 ≤ i ∧ i < len) (zlt (zst M r i.toNat (z)) X)) E := zv_gd fun hg => by
  intro t ho hE
  have k := k _ t ho hE
  obtain ⟨p, l, e, R, st, m, args, below, meth, cd, A, Qc, mc, ms⟩ := κ
  intro Y H locs ls hH hS hl
  have ha := zok_arr (hH r (by rw [hr]; decide)) hr (by decide)
  have hz := zix (n := zlen w.1 r) (by rw [hL]; exact hg) (by omega)
  have hK := Y.2.2.2.2.2.2.2.1.1
  have hne : ztag w.1 r ≠ 0 := by rw [hr]; decide
  have hnar : iv z = iv (z) := rfl
  refine W.iast Y.1 Y.2.1 ha ((hK.2 0 (w.2.2.2 20, .int) rfl).1 _ _) (fun q => by cases q) (by rw [arrV_size]; exact hz.1) rfl rfl d fun H1 e1 z1 oq => ?_
  refine k Y H1 _ ls (zHp_put hH Y.2.2.2.2.2.2.2.2.1 hne oq (fun q hq => zst_ne hq) (zok_arr' hr (by decide) ?_)) (hS.put z1 oq (Y.2.2.2.2.2.2.2.2.2.1 r hne)) hl
  rw [e1, hz.2, arrV_store]
  congr 2
  funext j
  by_cases hj : j = i.toNat
  · subst hj
    simp [updV, zav, zst, iv, jv]
  · simp [updV, zav, zst, iv, jv, hj]
theorem zv_zast {r : Nat} {i len z : Int} {X : zM → Option τ} (d : decode bs pc = .ok (.bastore, 1)) (hr : ztag w.1 r = 21) (hL : ((zlen w.1 r : Nat) : Int) = len) (hb : len ≤ 2147483647) (k : ∀ M', zV bs own nL ret κ w n (pc + 1) L S M' (X M') E) : zV bs own nL ret κ w n pc L (iv z :: iv i :: rn w r :: S) M (zgd ((z = 0 ∨ z = 1) ∧ 0 ≤ i ∧ i < len) (zlt (zst M r i.toNat (z)) X)) E := zv_gd fun hg => by
  intro t ho hE
  have k := k _ t ho hE
  obtain ⟨p, l, e, R, st, m, args, below, meth, cd, A, Qc, mc, ms⟩ := κ
  intro Y H locs ls hH hS hl
  have ha := zok_arr (hH r (by rw [hr]; decide)) hr (by decide)
  have hz := zix (n := zlen w.1 r) (by rw [hL]; exact hg.2) (by omega)
  have hK := Y.2.2.2.2.2.2.2.1.1
  have hne : ztag w.1 r ≠ 0 := by rw [hr]; decide
  have hnar : narrow .boolean (.int (Int32.ofInt z)) = iv (z) := by rcases hg.1 with rfl | rfl <;> rfl
  refine W.zast Y.1 Y.2.1 ha ((hK.2 1 (w.2.2.2 21, .boolean) rfl).1 _ _) (fun q => by cases q) (by rw [arrV_size]; exact hz.1) rfl rfl d fun H1 e1 z1 oq => ?_
  refine k Y H1 _ ls (zHp_put hH Y.2.2.2.2.2.2.2.2.1 hne oq (fun q hq => zst_ne hq) (zok_arr' hr (by decide) ?_)) (hS.put z1 oq (Y.2.2.2.2.2.2.2.2.2.1 r hne)) hl
  rw [e1, hz.2, hnar, arrV_store]
  congr 2
  funext j
  by_cases hj : j = i.toNat
  · subst hj
    simp [updV, zav, zst, iv, jv]
  · simp [updV, zav, zst, iv, jv, hj]
theorem zv_bast {r : Nat} {i len z : Int} {X : zM → Option τ} (d : decode bs pc = .ok (.bastore, 1)) (hr : ztag w.1 r = 22) (hL : ((zlen w.1 r : Nat) : Int) = len) (hb : len ≤ 2147483647) (k : ∀ M', zV bs own nL ret κ w n (pc + 1) L S M' (X M') E) : zV bs own nL ret κ w n pc L (iv z :: iv i :: rn w r :: S) M (zgd (0 ≤ i ∧ i < len) (zlt (zst M r i.toNat (zo_i2b z)) X)) E := zv_gd fun hg => by
  intro t ho hE
  have k := k _ t ho hE
  obtain ⟨p, l, e, R, st, m, args, below, meth, cd, A, Qc, mc, ms⟩ := κ
  intro Y H locs ls hH hS hl
  have ha := zok_arr (hH r (by rw [hr]; decide)) hr (by decide)
  have hz := zix (n := zlen w.1 r) (by rw [hL]; exact hg) (by omega)
  have hK := Y.2.2.2.2.2.2.2.1.1
  have hne : ztag w.1 r ≠ 0 := by rw [hr]; decide
  have hnar : narrow .byte (.int (Int32.ofInt z)) = iv (zo_i2b z) := by show Value.int _ = Value.int _; unfold zo_i2b; rw [zi_back]
  refine W.bast Y.1 Y.2.1 ha ((hK.2 2 (w.2.2.2 22, .byte) rfl).1 _ _) (fun q => by cases q) (by rw [arrV_size]; exact hz.1) rfl rfl d fun H1 e1 z1 oq => ?_
  refine k Y H1 _ ls (zHp_put hH Y.2.2.2.2.2.2.2.2.1 hne oq (fun q hq => zst_ne hq) (zok_arr' hr (by decide) ?_)) (hS.put z1 oq (Y.2.2.2.2.2.2.2.2.2.1 r hne)) hl
  rw [e1, hz.2, hnar, arrV_store]
  congr 2
  funext j
  by_cases hj : j = i.toNat
  · subst hj
    simp [updV, zav, zst, iv, jv]
  · simp [updV, zav, zst, iv, jv, hj]
theorem zv_last {r : Nat} {i len z : Int} {X : zM → Option τ} (d : decode bs pc = .ok (.lastore, 1)) (hr : ztag w.1 r = 23) (hL : ((zlen w.1 r : Nat) : Int) = len) (hb : len ≤ 2147483647) (k : ∀ M', zV bs own nL ret κ w n (pc + 1) L S M' (X M') E) : zV bs own nL ret κ w n pc L (jv z :: iv i :: rn w r :: S) M (zgd (0 ≤ i ∧ i < len) (zlt (zst M r i.toNat (z)) X)) E := zv_gd fun hg => by
  intro t ho hE
  have k := k _ t ho hE
  obtain ⟨p, l, e, R, st, m, args, below, meth, cd, A, Qc, mc, ms⟩ := κ
  intro Y H locs ls hH hS hl
  have ha := zok_arr (hH r (by rw [hr]; decide)) hr (by decide)
  have hz := zix (n := zlen w.1 r) (by rw [hL]; exact hg) (by omega)
  have hK := Y.2.2.2.2.2.2.2.1.1
  have hne : ztag w.1 r ≠ 0 := by rw [hr]; decide
  have hnar : jv z = jv (z) := rfl
  refine W.last Y.1 Y.2.1 ha ((hK.2 3 (w.2.2.2 23, .long) rfl).1 _ _) (fun q => by cases q) (by rw [arrV_size]; exact hz.1) rfl rfl d fun H1 e1 z1 oq => ?_
  refine k Y H1 _ ls (zHp_put hH Y.2.2.2.2.2.2.2.2.1 hne oq (fun q hq => zst_ne hq) (zok_arr' hr (by decide) ?_)) (hS.put z1 oq (Y.2.2.2.2.2.2.2.2.2.1 r hne)) hl
  rw [e1, hz.2, arrV_store]
  congr 2
  funext j
  by_cases hj : j = i.toNat
  · subst hj
    simp [updV, zav, zst, iv, jv]
  · simp [updV, zav, zst, iv, jv, hj]
end zA
def zroom (d : Nat) : Room := { frames := d, cells := 0, slots := 0, locals := 60 * d }
def zout (rc : Nat) (w : zW) (v : Int) : Option Value := match rc with
  | 0 => none
  | 1 => some (iv v)
  | 2 => some (jv v)
  | _ => some (rn w v.toNat)
def zA (w : zW) (sz : Nat) : Nat → Prop := fun q => (∃ r, ztag w.1 r ≠ 0 ∧ w.2.1 r = q) ∨ sz ≤ q
def zQk (rc : Nat) (w : zW) (M' : zM) (v : Int) (sz : Nat) : Array Value → State → Outcome → State → Prop := fun _ st oc t => oc = .returned (zout rc w v) ∧ zHp w M' t.heap ∧ va_F (zA w sz) st t
def zPc (w : zW) (avs : List Value) (M : zM) (sz : Nat) : Array Value → State → Prop := va_Pc avs (fun U => U.heap.size = sz ∧ zHp w M U.heap ∧ zEv w (zA w sz) U)
def zws (y : MethodName) (bs : ByteArray) (nL : Nat) (ret : Option FieldType) : List Cond := Cond.code y bs nL ret :: zT
/-- a method's contract: what its function says, the machine does -/
def zCn (l : Launch) (y : MethodName) (bs : ByteArray) (nL : Nat) (ret : Option FieldType) (d rc : Nat) (w : zW) (avs : List Value) (M : zM) (o : Option (zM × Int)) : Prop :=
  ∀ M' v, o = some (M', v) → ∀ sz, Met l y (zws y bs nL ret) (zroom d) (zPc w avs M sz) (zQk rc w M' v sz) 0 0 (zA w sz)
theorem zPc_blind {w : zW} {avs : List Value} {M : zM} {sz : Nat} : FrameBlind (zPc w avs M sz) := by
  intro a U g mk q
  obtain ⟨q0, q1, q2, q3⟩ := q
  exact ⟨q0, q1, q2, zEv_blind q3⟩
theorem zgoodIn {y : MethodName} {bs : ByteArray} {nL : Nat} {ret : Option FieldType} (h : Cond.code y bs nL ret ∈ lw_tbl) : GoodIn zT (zws y bs nL ret) := by
  intro x hx
  rcases List.mem_cons.mp hx with rfl | hx
  · exact ⟨zmT h rfl, good_of_word rfl⟩
  · exact ⟨hx, good_of_word (List.mem_filter.mp hx).2⟩
theorem zA_in {κ : zC} {bs : ByteArray} {own : String} {nL : Nat} {ret : Option FieldType} {w : zW} {n : Nat × Nat × Nat} {p : Program} {l : Launch} {e : Env} {R : Room} {s : State} {m : MethodId} {args : Array Value} {below : List Frame} {meth : Method} {c : Code} {A : Nat → Prop} {Qc : Array Value → State → Outcome → State → Prop} {mc ms : Nat} (hk : κ = (p, l, e, R, s, m, args, below, meth, c, A, Qc, mc, ms)) (Y : zCx bs own nL ret κ w n) {H : Heap} {locs : List Loc} (hS : va_S A s.heap H locs) : ∀ q, zA w H.size q → A q := by
  subst hk
  exact fun q hq => hq.elim (fun ⟨r, h1, h2⟩ => h2 ▸ Y.2.2.2.2.2.2.2.2.2.1 r h1) (fun h => Y.2.2.2.2.2.2.2.2.2.2.1 q (Nat.le_trans hS.1 h))
/-- what a called method's words are -/
def zMd (y : MethodName) (bs : ByteArray) (nL : Nat) (ret : Option FieldType) (na : Nat) : Prop := Cond.code y bs nL ret ∈ lw_tbl ∧ Cond.initialized y.cls ∈ lw_tbl ∧ nL ≤ 40 ∧ y.cls ≠ "java/lang/invoke/MethodHandle" ∧ y.cls ≠ "java/lang/invoke/VarHandle" ∧ (parseMethodDescriptor y.desc).map (fun d => d.parameters.length) = some na
def zRt (κ : zC) (w : zW) (n : Nat × Nat × Nat) (rc : Nat) (t : zM × Int) : Prop := match κ with
  | (_, _, _, _, s, _, args, _, _, _, A, Qc, mc, ms) => n.1 ≤ mc ∧ n.2.1 ≤ ms ∧ ∀ (H : Heap) (locs : List Loc) (u : State), zHp w t.1 H → va_S A s.heap H locs → u.heap = H → Qc args s (.returned (zout rc w t.2)) u
section zX
variable {τ : Type} {bs : ByteArray} {own : String} {nL : Nat} {ret : Option FieldType} {κ : zC} {w : zW} {n : Nat × Nat × Nat} {pc : Nat} {L : List (Nat × Value)} {S S0 : List Value} {M : zM} {o : Option τ} {E : τ → Prop}
theorem zv_run {y : MethodName} {ybs : ByteArray} {ynL : Nat} {yret : Option FieldType} {d rc : Nat} {avs : List Value} {oc : Option (zM × Int)} {X : zM → Int → Option τ} (hc : zCn κ.2.1 y ybs ynL yret d rc w avs M oc)
    (hrun : ∀ (p : Program) (l : Launch) (e : Env) (R : Room) (s : State) (m : MethodId) (args : Array Value) (below : List Frame) (meth : Method) (c : Code) (A : Nat → Prop) (Qc : Array Value → State → Outcome → State → Prop) (mc ms : Nat), κ = (p, l, e, R, s, m, args, below, meth, c, A, Qc, mc, ms) → zCx bs own nL ret κ w n → ∀ (H : Heap) (locs : List Loc) (ls : Array Slot), zHp w M H → va_S A s.heap H locs → lv_has ls nL L → ∀ (M' : zM) (v : Int), Met l y (zws y ybs ynL yret) (zroom d) (zPc w avs M H.size) (zQk rc w M' v H.size) 0 0 (zA w H.size) → va_Run p l e R s m args below meth c H locs n.1 n.2.1 0 0 (F0 m pc ls S0) S (zQk rc w M' v H.size avs.toArray) (zA w H.size))
    (k : ∀ M' v, oc = some (M', v) → zV bs own nL ret κ w n (pc + 3) L ((zout rc w v).toList ++ S) M' (X M' v) E) : zV bs own nL ret κ w n pc L S0 M (zbd oc X) E := by
  intro t ho hE
  cases hoc : oc with
  | none => rw [hoc] at ho; cases ho
  | some q =>
    obtain ⟨M', v⟩ := q
    rw [hoc] at ho
    have k := k M' v hoc t ho hE
    have hM := hc M' v hoc
    obtain ⟨p, l, e, R, s, m, args, below, meth, cd, A, Qc, mc, ms⟩ := κ
    intro Y H locs ls hH hS hl T hT XS
    obtain ⟨v1, st0, u, T', Lo, h0, X', hLo, e1, e2, ⟨e3, e4, e5⟩, go⟩ := hrun p l e R s m args below meth cd A Qc mc ms rfl Y H locs ls hH hS hl M' v (hM H.size) T hT XS
    cases e3
    have hA := zA_in rfl Y hS
    have hS' : va_S A s.heap T'.heap (locs ++ Lo) := by
      refine ⟨?_, fun q h1 h2 => ?_, fun q hq => ?_⟩
      · rw [e1]
        exact Nat.le_trans hS.1 (h0 ▸ e5.1)
      · rw [e1, e5.2 q (by rw [h0]; exact Nat.lt_of_lt_of_le h1 hS.1) (fun hz => h2 (hA q hz)), h0]
        exact hS.2.1 q h1 h2
      · rcases List.mem_append.mp hq with h1 | h1
        · exact hS.2.2 q h1
        · exact hA _ (hLo q h1)
    have K := k Y T'.heap (locs ++ Lo) ls (by rw [e1]; exact e4) hS' hl
    obtain ⟨tt, a1, b1⟩ := K T' rfl X'
    exact ⟨tt, go tt a1, b1⟩
end zX

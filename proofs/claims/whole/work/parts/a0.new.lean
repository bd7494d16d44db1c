/-! contracts of methods that make cells; a new Draw -/
theorem zwL_RX10_339 : Cond.classLink RX10 339 RX0 ∈ lw_tbl := zmt 938 (by decide +kernel)
theorem zwY_RX0 : Cond.instantiable RX0 1 ∈ lw_tbl := zmt 939 (by decide +kernel)
def zrooN (d c s : Nat) : Room := { frames := d, cells := c, slots := s, locals := 60 * d }
def zCnN (l : Launch) (y : MethodName) (bs : ByteArray) (nL : Nat) (ret : Option FieldType) (d c s rc : Nat) (w : zW) (avs : List Value) (M : zM) (o : Option (zM × Int)) : Prop :=
  ∀ M' v, o = some (M', v) → ∀ sz, Met l y (zws y bs nL ret) (zrooN d c s) (zPc w avs M sz) (zQk rc w M' v sz) c s (zA w sz)
theorem zRt_z {κ : zC} {w : zW} {c s d rc : Nat} {t : zM × Int} (h : zRt κ w (c, s, d) rc t) : zRt κ w (0, 0, d) rc t := by
  obtain ⟨p, l, e, R, st, m, args, below, meth, cd, A, Qc, mc, ms⟩ := κ
  exact ⟨Nat.zero_le _, Nat.zero_le _, h.2.2⟩
theorem zCnN_of {l : Launch} {y : MethodName} {bs : ByteArray} {own : String} {nL : Nat} {ret : Option FieldType} {d c s rc : Nat} {w : zW} {avs : List Value} {M : zM} {o : Option (zM × Int)} (hy : plainName y.cls = true) (hown : y.cls = own) (hwk : zWk w) (hn : (lg_sl avs).length ≤ nL) (L0 : List (Nat × Value)) (hL : lv_args 0 avs = L0)
    (h : ∀ κ : zC, κ.2.1 = l → c ≤ κ.2.2.2.1.cells → s ≤ κ.2.2.2.1.slots → zV bs own nL ret κ w (0, 0, d) 0 L0 [] M o (zRt κ w (c, s, d) rc)) : zCnN l y bs nL ret d c s rc w avs M o := by
  intro M' v ho sz
  refine Met.ofW (cc := bs) (maxL := nL) (ret := ret) hy rfl ?_
  intro p e st m args below meth cd s₁ B hml hv
  obtain ⟨rfl, hsz, hP, hK⟩ := hv
  have hts : ∀ x ∈ zws y bs nL ret, x.before avs.toArray st = true := atoms_spec (ws := zws y bs nL ret) B.pre
  have hcls : st.vm.findClass y.cls = some m.cls := findClass_of_methodNamed B.named
  have hl := lv_entry avs (n := nL) hn
  rw [lg_entry_eq]
  rw [hL] at hl
  have K := h (p, l, e, (headSpec (zws y bs nL ret) (zrooN d c s)).room, st, m, avs.toArray, below, meth, cd, zA w sz, zQk rc w M' v sz, c, s) rfl (Nat.le_refl _) (Nat.le_refl _) (M', v) ho ⟨Nat.le_refl _, Nat.le_refl _, fun H locs u h1 h2 h3 => ⟨rfl, by rw [h3]; exact h1, h2.F h3⟩⟩
    ⟨B.exec, B.bytes, hml, by rw [← hown]; exact hcls, fun x hx => hts x (List.mem_cons_of_mem _ hx), B.returns, B.notSynchronized, hK, hwk, fun r hr => Or.inl ⟨r, hr, rfl⟩, fun q hq => Or.inr (by rw [← hsz]; exact hq), Nat.le_refl _, Nat.le_refl _, Nat.zero_le _, Nat.zero_le _⟩
    st.heap [] _ hP (va_S.rf) hl
  exact K
section zN
variable {τ : Type} {bs : ByteArray} {own : String} {nL : Nat} {ret : Option FieldType} {κ : zC} {w : zW} {n : Nat × Nat × Nat} {pc : Nat} {L : List (Nat × Value)} {S S0 : List Value} {M : zM} {o : Option τ} {E : τ → Prop}
theorem zCx_n {n' : Nat × Nat × Nat} (Y : zCx bs own nL ret κ w n) (h1 : n'.1 ≤ κ.2.2.2.1.cells) (h2 : n'.2.1 ≤ κ.2.2.2.1.slots) (h3 : n'.2.2 = n.2.2) : zCx bs own nL ret κ w n' := by
  obtain ⟨p, l, e, R, s, m, args, below, meth, c, A, Qc, mc, ms⟩ := κ
  obtain ⟨y1, y2, y3, y4, y5, y6, y7, y8, y9, ya, yb, yc, yd, -, -⟩ := Y
  exact ⟨y1, y2, y3, y4, y5, y6, y7, y8, y9, ya, yb, by rw [h3]; exact yc, by rw [h3]; exact yd, h1, h2⟩
theorem zv_objInit {idx a : Nat} (hlk : Cond.methodLink own idx objectInit ∈ lw_tbl) (hd : 1 ≤ n.2.2) (hW : (S.map fun v => v.category).sum ≤ 8) (dc : decode bs pc = .ok (.invokespecial idx, 3)) (k : zV bs own nL ret κ w n (pc + 3) L S M o E) : zV bs own nL ret κ w n pc L (Value.ref a :: S) M o E := by
  intro t ho hE
  have k := k t ho hE
  obtain ⟨p, l, e, R, s, m, args, below, meth, c, A, Qc, mc, ms⟩ := κ
  intro Y H locs ls hH hS hl
  have hts := Y.2.2.2.2.1
  obtain ⟨r1, r2, r3, r4⟩ := Y.2.2.2.2.2.2.2.2.2.2.2
  refine W.objInit Y.1 Y.2.1 Y.2.2.2.1 (hts _ (zmT hlk rfl)) (hts _ (zmT zwX_oi rfl)) (hts _ (zmT zwX_oc rfl)) rfl (by rw [Y.2.2.1]; exact hl.1) rfl dc (by omega) (Nat.le_trans (Nat.add_le_add_right (lv_room hW) 12) (by omega)) (k Y H locs ls hH hS hl)
theorem zv_callIv {y : MethodName} {ybs : ByteArray} {ynL : Nat} {d b idx na : Nat} {oc : Option (zM × Int)} {X : zM → Int → Option τ} (As : List Value) (hc : zCn κ.2.1 y ybs ynL none d 0 w (rn w b :: As) M oc) (hm : zMd y ybs ynL none na) (hi : Cond.instanceMethod y ∈ lw_tbl) (hnm : y.name = "<init>") (hlk : Cond.methodLink own idx y ∈ lw_tbl) (hna : As.length = na) (hd : d + 1 ≤ n.2.2) (hst : S0 = As.reverse ++ rn w b :: S) (hW : (S.map fun v => v.category).sum ≤ 8) (dc : decode bs pc = .ok (.invokespecial idx, 3))
    (k : ∀ M' v, oc = some (M', v) → zV bs own nL ret κ w n (pc + 3) L (S) M' (X M' v) E) : zV bs own nL ret κ w n pc L S0 M (zbd oc X) E := by
  refine zv_run hc ?_ k
  rintro p l e R s m args below meth cd A Qc mc ms rfl Y H locs ls hH hS hl M' v hM
  have hts := Y.2.2.2.2.1
  have hE := Y.2.2.2.2.2.2.2.1
  have hA := zA_in rfl Y hS
  obtain ⟨r1, r2, r3, r4⟩ := Y.2.2.2.2.2.2.2.2.2.2.2
  obtain ⟨w1, w2, w3, w4, w5, w6⟩ := hm
  exact va_runI (rest := S) ⟨Y.1, Y.2.1, Y.2.2.1, Y.2.2.2.1, hts⟩ hM ⟨callB_of na hts (zgoodIn w1) rfl rfl rfl (hts _ (zmT w2 rfl)) (hts _ (zmT hlk rfl)) ⟨w4, w5, w6⟩ (zroomR hd r1 r2 w3), hnm, hts _ (zmT hi rfl)⟩ ⟨zPc_blind, fun U hU hW => ⟨rfl, by rw [hU], by rw [hU]; exact hH, zEv_call hE hS hA hU hW⟩⟩ rfl hna hl.1 hst (lv_room hW) dc ⟨r3, r4⟩
/-- the call of a method that makes cells -/
theorem zv_runN {y : MethodName} {ybs : ByteArray} {ynL : Nat} {yret : Option FieldType} {d c sl rc : Nat} {avs : List Value} {oc : Option (zM × Int)} {X : zM → Int → Option τ} (hc : zCnN κ.2.1 y ybs ynL yret d c sl rc w avs M oc) (hr : n.1 + c ≤ κ.2.2.2.1.cells ∧ n.2.1 + sl ≤ κ.2.2.2.1.slots)
    (hrun : ∀ (p : Program) (l : Launch) (e : Env) (R : Room) (s : State) (m : MethodId) (args : Array Value) (below : List Frame) (meth : Method) (cd : Code) (A : Nat → Prop) (Qc : Array Value → State → Outcome → State → Prop) (mc ms : Nat), κ = (p, l, e, R, s, m, args, below, meth, cd, A, Qc, mc, ms) → zCx bs own nL ret κ w n → ∀ (H : Heap) (locs : List Loc) (ls : Array Slot), zHp w M H → va_S A s.heap H locs → lv_has ls nL L → ∀ (M' : zM) (v : Int), Met l y (zws y ybs ynL yret) (zrooN d c sl) (zPc w avs M H.size) (zQk rc w M' v H.size) c sl (zA w H.size) → va_Run p l e R s m args below meth cd H locs n.1 n.2.1 c sl (F0 m pc ls S0) S (zQk rc w M' v H.size avs.toArray) (zA w H.size))
    (k : ∀ M' v, oc = some (M', v) → zV bs own nL ret κ w (n.1 + c, n.2.1 + sl, n.2.2) (pc + 3) L ((zout rc w v).toList ++ S) M' (X M' v) E) : zV bs own nL ret κ w n pc L S0 M (zbd oc X) E := by
  intro t ho hE
  cases hoc : oc with
  | none => rw [hoc] at ho; cases ho
  | some q =>
    obtain ⟨M', v⟩ := q
    rw [hoc] at ho
    have k := k M' v hoc t ho hE
    have hM := hc M' v hoc
    obtain ⟨p, l, e, R, s, m, args, below, meth, cd, A, Qc, mc, ms⟩ := κ
    intro Y H locs ls hH hS hl T hT XS
    obtain ⟨v1, st0, u, T', Lo, h0, X', hLo, e1, e2, ⟨e3, e4, e5⟩, go⟩ := hrun p l e R s m args below meth cd A Qc mc ms rfl Y H locs ls hH hS hl M' v (hM H.size) T hT XS
    cases e3
    have hA := zA_in rfl Y hS
    have hS' : va_S A s.heap T'.heap (locs ++ Lo) := by
      refine ⟨?_, fun q h1 h2 => ?_, fun q hq => ?_⟩
      · rw [e1]
        exact Nat.le_trans hS.1 (h0 ▸ e5.1)
      · rw [e1, e5.2 q (by rw [h0]; exact Nat.lt_of_lt_of_le h1 hS.1) (fun hz => h2 (hA q hz)), h0]
        exact hS.2.1 q h1 h2
      · rcases List.mem_append.mp hq with h1 | h1
        · exact hS.2.2 q h1
        · exact hA _ (hLo q h1)
    have K := k (zCx_n Y hr.1 hr.2 rfl) T'.heap (locs ++ Lo) ls (by rw [e1]; exact e4) hS' hl
    obtain ⟨tt, a1, b1⟩ := K T' rfl X'
    exact ⟨tt, go tt a1, b1⟩
theorem zv_callViN {y : MethodName} {ybs : ByteArray} {ynL : Nat} {yret : Option FieldType} {d c cs sl b idx na N : Nat} {C : String} {T : u_T} {ty : Nat → FieldType} {oc : Option (zM × Int)} {X : zM → Int → Option τ} (As : List Value) (hc : zCnN κ.2.1 y ybs ynL yret d cs sl 1 w (rn w b :: As) M oc) (hr : n.1 + cs ≤ κ.2.2.2.1.cells ∧ n.2.1 + sl ≤ κ.2.2.2.1.slots) (hm : zMd y ybs ynL yret na) (hi : Cond.instanceMethod y ∈ lw_tbl) (hs : Cond.selects C y y ∈ lw_tbl) (hlk : Cond.methodLink own idx y ∈ lw_tbl) (hC : zCd c C T N ty) (hb : ztag w.1 b = c + 1) (hna : As.length = na) (hd : d + 1 ≤ n.2.2) (hst : S0 = As.reverse ++ rn w b :: S) (hW : (S.map fun v => v.category).sum ≤ 8) (dc : decode bs pc = .ok (.invokevirtual idx, 3))
    (k : ∀ M' v, oc = some (M', v) → zV bs own nL ret κ w (n.1 + cs, n.2.1 + sl, n.2.2) (pc + 3) L (iv v :: S) M' (X M' v) E) : zV bs own nL ret κ w n pc L S0 M (zbd oc X) E := by
  refine zv_runN hc hr ?_ k
  rintro p l e R s m args below meth cd A Qc mc ms rfl Y H locs ls hH hS hl M' v hM
  obtain ⟨cell, q1, q2, q3, q4⟩ := zok_obj (hH b (by rw [hb]; omega)) hb hC.2.2.1
  have hts := Y.2.2.2.2.1
  have hK := Y.2.2.2.2.2.2.2.1.1
  have hE := Y.2.2.2.2.2.2.2.1
  have hA := zA_in rfl Y hS
  obtain ⟨r1, r2, r3, r4⟩ := Y.2.2.2.2.2.2.2.2.2.2.2
  obtain ⟨w1, w2, w3, w4, w5, w6⟩ := hm
  exact va_runV (rest := S) ⟨Y.1, Y.2.1, Y.2.2.1, Y.2.2.2.1, hts⟩ hM ⟨callB_of na hts (zgoodIn w1) rfl rfl rfl (hts _ (zmT w2 rfl)) (hts _ (zmT hlk rfl)) ⟨w4, w5, w6⟩ (zroomR hd r1 r2 w3), hts _ (zmT hi rfl), hts _ (zmT hs rfl)⟩ ⟨zPc_blind, ⟨cell, q1, by rw [q3]; rfl, by rw [q2]; exact (hK.1 c _ hC.1).2.1⟩, fun U hU hW => ⟨rfl, by rw [hU], by rw [hU]; exact hH, zEv_call hE hS hA hU hW⟩⟩ rfl hna hl.1 hst (lv_room hW) dc hr
/-- a world with one object more is as good -/
theorem zxt_wk {w : zW} {r i : Nat} {fr : Nat → Nat} {a : Nat} (hw : zWk w) (hk : w.1 = zKn i) (hi : i ≤ 3) (hr : ztag w.1 r = 0) (h0 : r ≠ 0) (ha : ∀ q, ztag w.1 q ≠ 0 → w.2.1 q ≠ a) : zWk (zxt w r (1, 0, fr) a) := by
  have t1 : ∀ q, q ≠ r → ztag (zxt w r (1, 0, fr) a).1 q = ztag w.1 q := fun q hq => by unfold ztag zxt; simp [hq]
  have t2 : ztag (zxt w r (1, 0, fr) a).1 r = 1 := by unfold ztag zxt; simp
  have t3 : ∀ q, q ≠ r → (zxt w r (1, 0, fr) a).2.1 q = w.2.1 q := fun q hq => by unfold zxt; simp [hq]
  have t4 : (zxt w r (1, 0, fr) a).2.1 r = a := by unfold zxt; simp
  refine ⟨⟨?_, ?_⟩, ?_⟩
  · rw [t1 0 (Ne.symm h0)]; exact hw.1.1
  · intro q c s hq hs hf
    by_cases e : q = r
    · subst e
      rw [t2] at hq
      have : c = 0 := by omega
      subst this
      have : s = 0 := by have h1 : s < 1 := hs; omega
      subst this
      exact absurd hf (by decide)
    · rw [t1 q e] at hq
      have hT := hw.1.2 q c s hq hs hf
      have ef : zfr (zxt w r (1, 0, fr) a).1 q s = zfr w.1 q s := by unfold zfr zxt; simp [e]
      have hc12 : c < 12 := by
        rcases Nat.lt_or_ge c 12 with h | h
        · exact h
        · exfalso
          have : znf c = 0 := by unfold znf; rw [List.getD_eq_getElem?_getD, List.getElem?_eq_none (by show 12 ≤ c; exact h)]; rfl
          omega
      have hne : zfr w.1 q s ≠ r := fun e' => by
        have := hT.1
        rw [e', hr] at this
        exact zgt_pos c hc12 s hs hf this.symm
      rw [ef, t1 _ hne]
      refine ⟨hT.1, ?_⟩
      have : zlen (zxt w r (1, 0, fr) a).1 (zfr w.1 q s) = zlen w.1 (zfr w.1 q s) := by unfold zlen zxt; simp [hne]
      rw [this]; exact hT.2
  · intro q q' h1 h2 h3
    by_cases e : q = r <;> by_cases e' : q' = r
    · rw [e, e']
    · subst e
      rw [t1 _ e'] at h2
      rw [t4, t3 _ e'] at h3
      exact absurd h3.symm (ha q' h2)
    · subst e'
      rw [t1 _ e] at h1
      rw [t4, t3 _ e] at h3
      exact absurd h3 (ha q h1)
    · rw [t1 _ e] at h1
      rw [t1 _ e'] at h2
      rw [t3 _ e, t3 _ e'] at h3
      exact hw.2 q q' h1 h2 h3
theorem zok_lt {w : zW} {M : zM} {H : Heap} {q : Nat} (h : zok w M H q) : w.2.1 q < H.size := by
  unfold zok at h
  split at h
  · obtain ⟨cell, e, -⟩ := h
    exact (Array.getElem?_eq_some_iff.mp e).1
  · exact (Array.getElem?_eq_some_iff.mp h).1
/-- `new Draw` -/
theorem zv_newD {idx r i : Nat} (hk : w.1 = zKn i) (hi : i ≤ 3) (hr : ztag w.1 r = 0) (h0 : r ≠ 0) (hr2 : r < 1000000) (hN : zNr M r) (hcl : Cond.classLink own idx RX0 ∈ lw_tbl) (dc : decode bs pc = .ok (.new idx, 3)) (hc : n.1 + 1 ≤ κ.2.2.2.1.cells) (hs : n.2.1 + 1 ≤ κ.2.2.2.1.slots)
    (k : ∀ a, zWk (zxt w r (1, 0, fun _ => 0) a) → zV bs own nL ret κ (zxt w r (1, 0, fun _ => 0) a) (n.1 + 1, n.2.1 + 1, n.2.2) (pc + 3) L (Value.ref a :: S) (zst M r 0 0) o E) : zV bs own nL ret κ w n pc L S M o E := by
  intro t ho hE
  have k := fun a b => k a b t ho hE
  obtain ⟨p, l, e, R, s, m, args, below, meth, c, A, Qc, mc, ms⟩ := κ
  intro Y H locs ls hH hS hl
  have hts := Y.2.2.2.2.1
  have hKn := Y.2.2.2.2.2.2.2.1.1.1 0 (RX0, TX0, 1) rfl
  refine W.newcK Y.1 Y.2.1 Y.2.2.2.1 (hts _ (zmT hcl rfl)) (hts _ (zmT zwY_RX0 rfl)) (hts _ (zmT zwN_RX0 rfl)) rfl dc hc hs hKn.2.1 rfl fun H1 kC hkC e1 z1 o1 => ?_
  have t1 : ∀ q, q ≠ r → ztag (zxt w r (1, 0, fun _ => 0) H.size).1 q = ztag w.1 q := fun q hq => by unfold ztag zxt; simp [hq]
  have t2 : ztag (zxt w r (1, 0, fun _ => 0) H.size).1 r = 1 := by unfold ztag zxt; simp
  have t3 : ∀ q, q ≠ r → (zxt w r (1, 0, fun _ => 0) H.size).2.1 q = w.2.1 q := fun q hq => by unfold zxt; simp [hq]
  have t4 : (zxt w r (1, 0, fun _ => 0) H.size).2.1 r = H.size := by unfold zxt; simp
  have hlt : ∀ q, ztag w.1 q ≠ 0 → w.2.1 q < H.size := fun q hq => zok_lt (hH q hq)
  obtain ⟨y1, y2, y3, y4, y5, y6, y7, y8, y9, ya, yb, yc, yd, ye, yf⟩ := Y
  have hN' : zNr (zst M r 0 0) r := by
    have tg : ∀ q, q ≠ r → zst M r 0 0 q = M q := fun q hq => zst_ne hq
    have n1 : (1 : Nat) ≠ r := fun e' => by
      rw [← e', hk] at hr
      exact absurd hr (by unfold ztag zKn; rw [if_pos (by omega)]; decide)
    have n20 : (20 : Nat) ≠ r := fun e' => by
      rw [← e', hk] at hr
      exact absurd hr (by unfold ztag zKn; rw [if_pos (by omega)]; decide)
    unfold zNr at *
    rw [tg 1 n1, tg 20 n20]
    exact hN
  have hwk : zWk (zxt w r (1, 0, fun _ => 0) H.size) := zxt_wk y9 hk hi hr h0 (fun q hq e' => by have := hlt q hq; omega)
  refine k H.size hwk ⟨y1, y2, y3, y4, y5, y6, y7, ?_, hwk, ?_, yb, yc, yd, hc, hs⟩ H1 locs ls ?_ ⟨Nat.le_trans hS.1 (by omega), fun x h1 h2 => (o1 x (Nat.lt_of_lt_of_le h1 hS.1)).trans (hS.2.1 x h1 h2), hS.2.2⟩ hl
  · obtain ⟨v1, v2, v3, v4, v5, v6⟩ := y8
    refine ⟨v1, v2, fun q hq => ?_, ?_, v5, v6⟩
    · rw [t3 _ (by omega)]; exact v3 q hq
    · have f1 : (fun i => (zxt w r (1, 0, fun _ => 0) H.size).2.1 (1000000 + i)) = fun i => w.2.1 (1000000 + i) := by funext x; exact t3 _ (by omega)
      have f2 : (fun i => (zxt w r (1, 0, fun _ => 0) H.size).2.1 (2000000 + i)) = fun i => w.2.1 (2000000 + i) := by funext x; exact t3 _ (by omega)
      rw [f1, f2]; exact v4
  · intro q hq
    by_cases e' : q = r
    · subst e'; rw [t4]; exact yb _ hS.1
    · rw [t1 q e'] at hq; rw [t3 q e']; exact ya q hq
  · intro q hq
    by_cases e' : q = r
    · subst e'
      refine zok_obj' (c := 0) t2 (by decide) ?_
      rw [t4]
      refine (u_born tyX0 y5 (zinT zin_0) hKn hkC e1 tyX0_ok).to (fun j hj => ?_)
      have : j = 0 := by have h1 : j < 1 := hj; omega
      subst this
      show defaultValue (tyX0 0) = jv (zst M q 0 0 q 0)
      rw [zst_eq]; rfl
    · rw [t1 q e'] at hq
      exact (zxt_ok hk hi hr hN' hq).mpr (zok_at (hH q hq) (zst_ne e') (o1 _ (hlt q hq)))
end zN
theorem zmd_X0_init : zMd yX0_init cX0_init 3 none 1 := ⟨zwC_X0_init, zwN_RX0, by decide, by decide, by decide, by decide⟩
theorem c_X0_init (l : Launch) {w : zW} (hw : zWk w) (p0 : Nat) (p1 : Int) (M0 : zM) (hp0 : ztag w.1 p0 = 1) : zCn l yX0_init cX0_init 3 none 1 0 w [rn w p0, jv p1] M0 (some (zst M0 p0 0 p1, 0)) := by
  refine zCn_of (own := RX0) (by decide) rfl hw (Nat.le_of_ble_eq_true rfl) [(0, rn w p0), (1, jv p1)] rfl ?_
  intro κ hl
  subst hl
  refine zv_rload_n dX0_init_0 0 rfl ?_
  refine zv_objInit zwM_RX0_1 (by decide) (by decide) dX0_init_1 ?_
  refine zv_rload_n dX0_init_4 0 rfl ?_
  refine zv_lload_n dX0_init_5 1 rfl ?_
  exact zp_RX0_7 (X := fun M' => some (M', 0)) dX0_init_6 hp0 (fun M' => zv_ret (fun h => h) (zv_vret (v := 0) dX0_init_9))

/-! the law's start -/
theorem zwL_RL_7 : Cond.classLink RL 7 RX10 ∈ lw_tbl := zmt 21 (by decide +kernel)
theorem zwY_RX10 : Cond.instantiable RX10 15 ∈ lw_tbl := zmt 22 (by decide +kernel)
theorem zwL_RL_10 : Cond.classLink RL 10 RX11 ∈ lw_tbl := zmt 1066 (by decide +kernel)
theorem zwY_RX11 : Cond.instantiable RX11 73 ∈ lw_tbl := zmt 1067 (by decide +kernel)
def zkap (p : Program) (l : Launch) (e : Env) (s : State) (m : MethodId) (b : Nat) (below : List Frame) (meth : Method) (c : Code) : zC := (p, l, e, room_1, s, m, #[Value.ref b], below, meth, c, (fun q : Nat => s.heap.size ≤ q), (fun (_ : Array Value) (_ : State) (o : Outcome) (_ : State) => o = .returned (some (.int 1))), 600000, 7302250)
theorem zknown {s : State} {args : Array Value} (hts : ∀ x ∈ zT, x.before args s = true) : ∃ (dC : Nat → ClassId) (dI : Nat → Nat → Nat), va_K (dC, dI) zcl [] s := by
  have h : ∀ c : Nat, ∃ q : ClassId × (Nat → Nat), ∀ x : vw_C, zcl[c]? = some x → u_Kn s x.1 x.2.1 x.2.2 q.1 q.2 := by
    intro c
    have k : ∀ (C : String) (T : u_T) (N : Nat), (∀ w ∈ u_ws C T N, w ∈ zT) → Cond.instantiable C N ∈ lw_tbl → ∃ q : ClassId × (Nat → Nat), u_Kn s C T N q.1 q.2 := fun C T N hin hi => by
      obtain ⟨cC, iS, hk⟩ := u_known hts hin (hts _ (zmT hi rfl))
      exact ⟨(cC, iS), hk⟩
    rcases Nat.lt_or_ge c 12 with hc | hc
    · obtain ⟨q, hq⟩ : ∃ q : ClassId × (Nat → Nat), ∀ x : vw_C, zcl[c]? = some x → u_Kn s x.1 x.2.1 x.2.2 q.1 q.2 := by
        revert c
        exact (lt_s (lt_s (lt_s (lt_s (lt_s (lt_s (lt_s (lt_s (lt_s (lt_s (lt_s (lt_s lt_0 (by obtain ⟨q, hq⟩ := k RX0 TX0 1 (zinT zin_0) zwY_RX0; exact ⟨q, fun x hx => by cases hx; exact hq⟩)) (by obtain ⟨q, hq⟩ := k RX1 TX1 2 (zinT zin_1) zwY_RX1; exact ⟨q, fun x hx => by cases hx; exact hq⟩)) (by obtain ⟨q, hq⟩ := k RX2 TX2 11 (zinT zin_2) zwY_RX2; exact ⟨q, fun x hx => by cases hx; exact hq⟩)) (by obtain ⟨q, hq⟩ := k RX3 TX3 15 (zinT zin_3) zwY_RX3; exact ⟨q, fun x hx => by cases hx; exact hq⟩)) (by obtain ⟨q, hq⟩ := k RX4 TX4 3 (zinT zin_4) zwY_RX4; exact ⟨q, fun x hx => by cases hx; exact hq⟩)) (by obtain ⟨q, hq⟩ := k RX5 TX5 2 (zinT zin_5) zwY_RX5; exact ⟨q, fun x hx => by cases hx; exact hq⟩)) (by obtain ⟨q, hq⟩ := k RX6 TX6 8 (zinT zin_6) zwY_RX6; exact ⟨q, fun x hx => by cases hx; exact hq⟩)) (by obtain ⟨q, hq⟩ := k RX7 TX7 20 (zinT zin_7) zwY_RX7; exact ⟨q, fun x hx => by cases hx; exact hq⟩)) (by obtain ⟨q, hq⟩ := k RX8 TX8 7 (zinT zin_8) zwY_RX8; exact ⟨q, fun x hx => by cases hx; exact hq⟩)) (by obtain ⟨q, hq⟩ := k RX9 TX9 7 (zinT zin_9) zwY_RX9; exact ⟨q, fun x hx => by cases hx; exact hq⟩)) (by obtain ⟨q, hq⟩ := k RX10 TX10 15 (zinT zin_10) zwY_RX10; exact ⟨q, fun x hx => by cases hx; exact hq⟩)) (by obtain ⟨q, hq⟩ := k RX11 TX11 73 (zinT zin_11) zwY_RX11; exact ⟨q, fun x hx => by cases hx; exact hq⟩))
      exact ⟨q, hq⟩
    · exact ⟨(default, fun _ => 0), fun x hx => by
        have := (List.getElem?_eq_some_iff.mp hx).1
        have : c < 12 := this
        omega⟩
  refine ⟨fun c => (Classical.choose (h c)).1, fun c => (Classical.choose (h c)).2, fun c q hq => Classical.choose_spec (h c) q hq, fun k q hk => by simp at hk⟩

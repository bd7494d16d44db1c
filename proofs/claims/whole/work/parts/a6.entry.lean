/-! what holds at the law's entry -/
theorem zwG_RX10_9 : Cond.methodLinkNest RX10 9 yX6_init "DrownedLand" ∈ lw_tbl := zmt 31 (by decide +kernel)
theorem zwG_RX10_29 : Cond.methodLinkNest RX10 29 yX8_init "DrownedLand" ∈ lw_tbl := zmt 157 (by decide +kernel)
theorem zwG_RX10_41 : Cond.methodLinkNest RX10 41 yX4_init "DrownedLand" ∈ lw_tbl := zmt 241 (by decide +kernel)
theorem zwG_RX10_48 : Cond.methodLinkNest RX10 48 yX1_init "DrownedLand" ∈ lw_tbl := zmt 259 (by decide +kernel)
theorem zwG_RX10_55 : Cond.methodLinkNest RX10 55 yX9_init "DrownedLand" ∈ lw_tbl := zmt 273 (by decide +kernel)
theorem zwG_RX10_62 : Cond.methodLinkNest RX10 62 yX5_init "DrownedLand" ∈ lw_tbl := zmt 305 (by decide +kernel)
theorem zwG_RX10_73 : Cond.methodLinkNest RX10 73 yX3_init "DrownedLand" ∈ lw_tbl := zmt 320 (by decide +kernel)
theorem zwG_RX1_19 : Cond.methodLinkNest RX1 19 yX10_beside "DrownedLand" ∈ lw_tbl := zmt 793 (by decide +kernel)
theorem zwG_RX2_74 : Cond.methodLinkNest RX2 74 yX10_beside "DrownedLand" ∈ lw_tbl := zmt 726 (by decide +kernel)
theorem zwG_RX2_77 : Cond.methodLinkNest RX2 77 yX10_isCell "DrownedLand" ∈ lw_tbl := zmt 733 (by decide +kernel)
theorem zwG_RX8_21 : Cond.methodLinkNest RX8 21 yX2_init "DrownedLand" ∈ lw_tbl := zmt 163 (by decide +kernel)
theorem zwG_RX8_46 : Cond.methodLinkNest RX8 46 yX10_beside "DrownedLand" ∈ lw_tbl := zmt 780 (by decide +kernel)
theorem zwG_all : ∀ q ∈ znt, Cond.methodLinkNest q.1 q.2.1 q.2.2.1 q.2.2.2 ∈ lw_tbl := List.forall_mem_cons.mpr ⟨zwG_RX10_9, List.forall_mem_cons.mpr ⟨zwG_RX10_29, List.forall_mem_cons.mpr ⟨zwG_RX10_41, List.forall_mem_cons.mpr ⟨zwG_RX10_48, List.forall_mem_cons.mpr ⟨zwG_RX10_55, List.forall_mem_cons.mpr ⟨zwG_RX10_62, List.forall_mem_cons.mpr ⟨zwG_RX10_73, List.forall_mem_cons.mpr ⟨zwG_RX1_19, List.forall_mem_cons.mpr ⟨zwG_RX2_74, List.forall_mem_cons.mpr ⟨zwG_RX2_77, List.forall_mem_cons.mpr ⟨zwG_RX8_21, List.forall_mem_cons.mpr ⟨zwG_RX8_46, fun _ h => absurd h List.not_mem_nil⟩⟩⟩⟩⟩⟩⟩⟩⟩⟩⟩⟩
theorem zwR_77 : Cond.stringRef RX6 77 "to" ∈ lw_tbl := zmt 544 (by decide +kernel)
theorem zwR_99 : Cond.stringRef RX6 99 "if" ∈ lw_tbl := zmt 568 (by decide +kernel)
theorem zwR_110 : Cond.stringRef RX6 110 "or" ∈ lw_tbl := zmt 619 (by decide +kernel)
theorem zwR_119 : Cond.stringRef RX6 119 "and" ∈ lw_tbl := zmt 618 (by decide +kernel)
theorem zwR_121 : Cond.stringRef RX6 121 "not" ∈ lw_tbl := zmt 581 (by decide +kernel)
theorem zwR_143 : Cond.stringRef RX6 143 "sea" ∈ lw_tbl := zmt 477 (by decide +kernel)
theorem zwR_145 : Cond.stringRef RX6 145 "sink" ∈ lw_tbl := zmt 530 (by decide +kernel)
theorem zwR_147 : Cond.stringRef RX6 147 "live" ∈ lw_tbl := zmt 531 (by decide +kernel)
theorem zwR_149 : Cond.stringRef RX6 149 "fish" ∈ lw_tbl := zmt 532 (by decide +kernel)
theorem zwR_151 : Cond.stringRef RX6 151 "keep" ∈ lw_tbl := zmt 533 (by decide +kernel)
theorem zwR_153 : Cond.stringRef RX6 153 "carry" ∈ lw_tbl := zmt 534 (by decide +kernel)
theorem zwR_155 : Cond.stringRef RX6 155 "catch" ∈ lw_tbl := zmt 535 (by decide +kernel)
theorem zwR_157 : Cond.stringRef RX6 157 "fished" ∈ lw_tbl := zmt 557 (by decide +kernel)
theorem zwR_159 : Cond.stringRef RX6 159 "cored" ∈ lw_tbl := zmt 558 (by decide +kernel)
theorem zwR_161 : Cond.stringRef RX6 161 "grabbed" ∈ lw_tbl := zmt 559 (by decide +kernel)
theorem zwR_163 : Cond.stringRef RX6 163 "x" ∈ lw_tbl := zmt 598 (by decide +kernel)
theorem zwR_165 : Cond.stringRef RX6 165 "y" ∈ lw_tbl := zmt 599 (by decide +kernel)
theorem zwR_167 : Cond.stringRef RX6 167 "age" ∈ lw_tbl := zmt 600 (by decide +kernel)
theorem zwR_169 : Cond.stringRef RX6 169 "height" ∈ lw_tbl := zmt 601 (by decide +kernel)
theorem zwR_171 : Cond.stringRef RX6 171 "river" ∈ lw_tbl := zmt 602 (by decide +kernel)
theorem zwR_173 : Cond.stringRef RX6 173 "coast" ∈ lw_tbl := zmt 603 (by decide +kernel)
theorem zwR_175 : Cond.stringRef RX6 175 "wind" ∈ lw_tbl := zmt 604 (by decide +kernel)
theorem zwR_all : ∀ q ∈ zsr, Cond.stringRef RX6 q.1 q.2.1 ∈ lw_tbl := List.forall_mem_cons.mpr ⟨zwR_77, List.forall_mem_cons.mpr ⟨zwR_99, List.forall_mem_cons.mpr ⟨zwR_110, List.forall_mem_cons.mpr ⟨zwR_119, List.forall_mem_cons.mpr ⟨zwR_121, List.forall_mem_cons.mpr ⟨zwR_143, List.forall_mem_cons.mpr ⟨zwR_145, List.forall_mem_cons.mpr ⟨zwR_147, List.forall_mem_cons.mpr ⟨zwR_149, List.forall_mem_cons.mpr ⟨zwR_151, List.forall_mem_cons.mpr ⟨zwR_153, List.forall_mem_cons.mpr ⟨zwR_155, List.forall_mem_cons.mpr ⟨zwR_157, List.forall_mem_cons.mpr ⟨zwR_159, List.forall_mem_cons.mpr ⟨zwR_161, List.forall_mem_cons.mpr ⟨zwR_163, List.forall_mem_cons.mpr ⟨zwR_165, List.forall_mem_cons.mpr ⟨zwR_167, List.forall_mem_cons.mpr ⟨zwR_169, List.forall_mem_cons.mpr ⟨zwR_171, List.forall_mem_cons.mpr ⟨zwR_173, List.forall_mem_cons.mpr ⟨zwR_175, fun _ h => absurd h List.not_mem_nil⟩⟩⟩⟩⟩⟩⟩⟩⟩⟩⟩⟩⟩⟩⟩⟩⟩⟩⟩⟩⟩⟩
theorem zwT_cs : Cond.laysStatic "java/lang/String" "COMPACT_STRINGS" "Z" ∈ lw_tbl := zmt 491 (by decide +kernel)
theorem zwT_csi : Cond.initialized "java/lang/String" ∈ lw_tbl := zmt 13 (by decide +kernel)
theorem zwT_sf : Cond.laysStatic "jdk/internal/util/Preconditions" "SIOOBE_FORMATTER" "Ljava/util/function/BiFunction;" ∈ lw_tbl := zmt 507 (by decide +kernel)
theorem zwT_sfi : Cond.initialized "jdk/internal/util/Preconditions" ∈ lw_tbl := zmt 15 (by decide +kernel)
def ztm (i : Nat) : Term := .string RX6 ((zsr.getD i (0, "", 0)).1)
abbrev zpre : Cond := Jvm.Cond.and given_1 narrow_1
def zpr (c : Cond) : Option Nat := match c with
  | .not (.eq (.string o k1) (.string o' k2)) => if o = RX6 ∧ o' = RX6 ∧ k1 < 1000 ∧ k2 < 1000 then some (k1 * 1000 + k2) else none
  | _ => none
theorem zpr_s {c : Cond} {k1 k2 : Nat} (h1 : k1 < 1000) (h2 : k2 < 1000) (h : zpr c = some (k1 * 1000 + k2)) : c = .not (.eq (.string RX6 k1) (.string RX6 k2)) := by
  unfold zpr at h
  split at h
  · split at h
    · rename_i o a o' b hc
      obtain ⟨rfl, rfl, c1, c2⟩ := hc
      have := Option.some.inj h
      obtain ⟨rfl, rfl⟩ : a = k1 ∧ b = k2 := by omega
      rfl
    · cases h
  · cases h
def zprs : List Nat := (flatC zpre).filterMap zpr
theorem zprs_in {k1 k2 : Nat} (h1 : k1 < 1000) (h2 : k2 < 1000) (h : (k1 * 1000 + k2) ∈ zprs) : (Cond.not (Cond.eq (.string RX6 k1) (.string RX6 k2))) ∈ flatC zpre := by
  obtain ⟨c, hc, e⟩ := List.mem_filterMap.mp h
  rw [← zpr_s h1 h2 e]
  exact hc
def zki (i : Nat) : Nat := (zsr.getD i (0, "", 0)).1
theorem zki_l : ∀ i, i < zsn → zki i < 1000 := by decide +kernel
theorem zprs_all : ((List.range 22).all fun i => (List.range 22).all fun j => i == j || (zprs.contains (zki i * 1000 + zki j) || zprs.contains (zki j * 1000 + zki i))) = true := by decide +kernel
theorem zstr {args : Array Value} {s : State} (h : zpre.before args s = true) {A : Nat → Prop} (hA : ∀ a : Nat, a < s.heap.size → ¬ A a) : ∃ adK adV : Nat → Nat, vk_S zsn zsl zsb adK adV A s s.heap ∧ ∀ i : Nat, i < zsn → (ztm i).eval args s none [] s = some (.ref (adK i)) := by
  have hs := flat_of_before _ h
  refine vk_Sof (by decide) (fun i hi => hs _ ((by decide +kernel : ∀ i, i < zsn → (Cond.exactly (ztm i) "java/lang/String") ∈ flatC zpre) i hi)) (fun i hi => hs _ ((by decide +kernel : ∀ i, i < zsn → (Cond.eq (.field (ztm i) "java/lang/String" "coder" "B") (.int 0)) ∈ flatC zpre) i hi))
    (fun i hi => hs _ ((by decide +kernel : ∀ i, i < zsn → (Cond.arrayOf (.field (ztm i) "java/lang/String" "value" "[B") .byte) ∈ flatC zpre) i hi)) (fun i hi => hs _ ((by decide +kernel : ∀ i, i < zsn → (Cond.eq (.length (.field (ztm i) "java/lang/String" "value" "[B")) (.int (Int32.ofNat (zsl.getD i 0)))) ∈ flatC zpre) i hi))
    (fun i hi j hj => hs _ ((by decide +kernel : ∀ i, i < zsn → ∀ j, j < zsl.getD i 0 → (Cond.eq (.elem (.field (ztm i) "java/lang/String" "value" "[B") (.int (Int32.ofNat j))) (.int ((zsb.getD i []).getD j 0))) ∈ flatC zpre) i hi j hj))
    (fun i j hi hj hij => ?_) hA
  have h1 := List.all_eq_true.mp (List.all_eq_true.mp zprs_all i (List.mem_range.mpr hi)) j (List.mem_range.mpr hj)
  have l1 := zki_l i hi
  have l2 := zki_l j hj
  rw [Bool.or_eq_true, Bool.or_eq_true] at h1
  rcases h1 with h1 | h1 | h1
  · exact absurd (eq_of_beq h1) hij
  · exact Or.inl (hs _ (zprs_in l1 l2 (List.contains_iff_mem.mp h1)))
  · exact Or.inr (hs _ (zprs_in l2 l1 (List.contains_iff_mem.mp h1)))
theorem zsr_at : ∀ q ∈ zsr, q.2.2 < zsn ∧ (zsr.getD q.2.2 (0, "", 0)).1 = q.1 := by decide +kernel
/-- texts, nest mates, statics -/
theorem zentry {args : Array Value} {s : State} (h : zpre.before args s = true) (hts : ∀ w ∈ lw_tbl, w.before args s = true) {A : Nat → Prop} (hA : ∀ a : Nat, a < s.heap.size → ¬ A a) : ∃ adK adV : Nat → Nat, (∀ q ∈ znt, va_Nw (.methodLinkNest q.1 q.2.1 q.2.2.1 q.2.2.2) s) ∧ (∀ q ∈ zsr, vk_R RX6 q.1 q.2.1 (adK q.2.2) s) ∧ vk_S zsn zsl zsb adK adV A s s.heap ∧ va_Z "java/lang/String" "COMPACT_STRINGS" "Z" (.int 1) A s s.heap ∧ va_Zq "jdk/internal/util/Preconditions" "SIOOBE_FORMATTER" "Ljava/util/function/BiFunction;" A s s.heap := by
  obtain ⟨adK, adV, h1, h2⟩ := zstr h hA
  have hs := flat_of_before _ h
  refine ⟨adK, adV, fun q hq => va_Nw.of rfl (hts _ (zwG_all q hq)), fun q hq => ?_, h1, ?_, ?_⟩
  · obtain ⟨g1, g2⟩ := zsr_at q hq
    refine vk_R.of (hts _ (zwR_all q hq)) ?_
    have := h2 _ g1
    unfold ztm at this
    rw [g2] at this
    exact this
  · refine va_Zof (hts _ zwT_cs) (hts _ zwT_csi) ?_ hA
    exact Cond.eq_int (hs _ (by decide +kernel : (Cond.eq (.static "java/lang/String" "COMPACT_STRINGS" "Z") (.int 1)) ∈ flatC zpre)) rfl
  · exact va_Zqof (hts _ zwT_sf) (hts _ zwT_sfi) (hs _ (by decide +kernel)) hA


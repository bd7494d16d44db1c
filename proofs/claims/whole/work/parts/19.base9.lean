/-! references that may be null -/
section zN
variable {τ : Type} {bs : ByteArray} {own : String} {nL : Nat} {ret : Option FieldType} {κ : zC} {w : zW} {n : Nat × Nat × Nat} {pc : Nat} {L : List (Nat × Value)} {S : List Value} {M : zM} {o : Option τ} {E : τ → Prop}
theorem zv_aald {r : Nat} {i len : Int} (d : decode bs pc = .ok (.aaload, 1)) (hr : ztag w.1 r = 24) (hL : ((zlen w.1 r : Nat) : Int) = len) (hb : len ≤ 2147483647) (k : zV bs own nL ret κ w n (pc + 1) L (rv w (M r i.toNat).toNat :: S) M o E) : zV bs own nL ret κ w n pc L (iv i :: rn w r :: S) M (zgd (0 ≤ i ∧ i < len) o) E := zv_gd fun hg => by
  intro t ho hE
  have k := k t ho hE
  obtain ⟨p, l, e, R, st, m, args, below, meth, cd, A, Qc, mc, ms⟩ := κ
  intro X H locs ls hH hS hl
  have ha := zok_arr (hH r (by rw [hr]; decide)) hr (by decide)
  have hz := zix (n := zlen w.1 r) (by rw [hL]; exact hg) (by omega)
  have hK := X.2.2.2.2.2.2.2.1.1
  refine W.aald (ty := .object "DrownedLand$Told") X.1 X.2.1 ha ((hK.2 4 (w.2.2.2 24, .object "DrownedLand$Told") rfl).1 _ _) rfl (fun q => by cases q) (by rw [arrV_size]; exact hz.1) (v := rv w (M r i.toNat).toNat) ?_ rfl rfl d (k X H locs ls hH hS hl)
  rw [hz.2, arrV_read _ _ (by omega)]
  rfl
theorem zv_ifnn {q : Nat} {off : Int} {tgt : Nat} {X Y : Option τ} (d : decode bs pc = .ok (.ifnonnull off, 3)) (ht : (pc : Int) + off = (tgt : Int)) (kt : zV bs own nL ret κ w n tgt L S M X E) (kf : zV bs own nL ret κ w n (pc + 3) L S M Y E) : zV bs own nL ret κ w n pc L (rv w q :: S) M (if q = 0 then Y else X) E := by
  by_cases hq : q = 0
  · rw [if_pos hq]
    refine zv_w (fun _ _ _ _ _ _ _ _ _ _ _ _ _ _ _ _ hx hb hts hown hl k => ?_) kf
    unfold rv
    rw [if_pos hq]
    exact lv_ifnonnullN hx hb d k
  · rw [if_neg hq]
    refine zv_w (fun _ _ _ _ _ _ _ _ _ _ _ _ _ _ _ _ hx hb hts hown hl k => ?_) kt
    unfold rv
    rw [if_neg hq]
    exact lv_ifnonnull hx hb d ht k
theorem zv_nn {q : Nat} (hq : q ≠ 0) (k : zV bs own nL ret κ w n pc L (rn w q :: S) M o E) : zV bs own nL ret κ w n pc L (rv w q :: S) M o E := by
  unfold rv
  rw [if_neg hq]
  exact k
end zN

theorem znz {z : Int} (h : z = 0 ∨ z = 1) : narrow .boolean (.int (Int32.ofInt z)) = .int (Int32.ofInt z) := by rcases h with rfl | rfl <;> rfl
/-! calls by kind, returns, a contract out of a walk -/
section zX
variable {τ : Type} {bs : ByteArray} {own : String} {nL : Nat} {ret : Option FieldType} {κ : zC} {w : zW} {n : Nat × Nat × Nat} {pc : Nat} {L : List (Nat × Value)} {S S0 : List Value} {M : zM} {o : Option τ} {E : τ → Prop}
theorem zroomR {d ynL : Nat} {R : Room} {D : Nat} (h : d + 1 ≤ D) (h1 : D ≤ R.frames) (h2 : 60 * D ≤ R.locals) (h3 : ynL ≤ 40) : (zroom d).frames + 1 ≤ R.frames ∧ 8 + (ynL + 11) + (zroom d).locals ≤ R.locals := by
  show d + 1 ≤ R.frames ∧ 8 + (ynL + 11) + 60 * d ≤ R.locals
  omega
theorem zv_callVv {y : MethodName} {ybs : ByteArray} {ynL : Nat} {yret : Option FieldType} {d c b idx na N : Nat} {C : String} {T : u_T} {ty : Nat → FieldType} {oc : Option (zM × Int)} {X : zM → Int → Option τ} (As : List Value) (hc : zCn κ.2.1 y ybs ynL yret d 0 w (rn w b :: As) M oc) (hm : zMd y ybs ynL yret na) (hi : Cond.instanceMethod y ∈ lw_tbl) (hs : Cond.selects C y y ∈ lw_tbl) (hlk : Cond.methodLink own idx y ∈ lw_tbl) (hC : zCd c C T N ty) (hb : ztag w.1 b = c + 1) (hna : As.length = na) (hd : d + 1 ≤ n.2.2) (hst : S0 = As.reverse ++ rn w b :: S) (hW : (S.map fun v => v.category).sum ≤ 8) (dc : decode bs pc = .ok (.invokevirtual idx, 3))
    (k : ∀ M' v, oc = some (M', v) → zV bs own nL ret κ w n (pc + 3) L (S) M' (X M' v) E) : zV bs own nL ret κ w n pc L S0 M (zbd oc X) E := by
  refine zv_run hc ?_ k
  rintro p l e R s m args below meth cd A Qc mc ms rfl Y H locs ls hH hS hl M' v hM
  obtain ⟨cell, q1, q2, q3, q4⟩ := zok_obj (hH b (by rw [hb]; omega)) hb hC.2.2.1
  have hts := Y.2.2.2.2.1
  have hK := Y.2.2.2.2.2.2.2.1.1
  have hE := Y.2.2.2.2.2.2.2.1
  have hA := zA_in rfl Y hS
  obtain ⟨r1, r2, r3, r4⟩ := Y.2.2.2.2.2.2.2.2.2.2.2
  obtain ⟨w1, w2, w3, w4, w5, w6⟩ := hm
  refine va_runV (rest := S) ⟨Y.1, Y.2.1, Y.2.2.1, Y.2.2.2.1, hts⟩ hM ⟨callB_of na hts (zgoodIn w1) rfl rfl rfl (hts _ (zmT w2 rfl)) (hts _ (zmT hlk rfl)) ⟨w4, w5, w6⟩ (zroomR hd r1 r2 w3), hts _ (zmT hi rfl), hts _ (zmT hs rfl)⟩ ⟨zPc_blind, ⟨cell, q1, by rw [q3]; rfl, by rw [q2]; exact (hK.1 c _ hC.1).2.1⟩, fun U hU hW => ⟨rfl, by rw [hU], by rw [hU]; exact hH, zEv_call hE hS hA hU hW⟩⟩ rfl hna hl.1 hst (lv_room hW) dc ⟨r3, r4⟩
theorem zv_callSv {y : MethodName} {ybs : ByteArray} {ynL : Nat} {yret : Option FieldType} {d idx na : Nat} {oc : Option (zM × Int)} {X : zM → Int → Option τ} (As : List Value) (hc : zCn κ.2.1 y ybs ynL yret d 0 w As M oc) (hm : zMd y ybs ynL yret na) (hi : Cond.static y ∈ lw_tbl) (hlk : Cond.methodLink own idx y ∈ lw_tbl) (hna : As.length = na) (hd : d + 1 ≤ n.2.2) (hst : S0 = As.reverse ++ S) (hW : (S.map fun v => v.category).sum ≤ 8) (dc : decode bs pc = .ok (.invokestatic idx, 3))
    (k : ∀ M' v, oc = some (M', v) → zV bs own nL ret κ w n (pc + 3) L (S) M' (X M' v) E) : zV bs own nL ret κ w n pc L S0 M (zbd oc X) E := by
  refine zv_run hc ?_ k
  rintro p l e R s m args below meth cd A Qc mc ms rfl Y H locs ls hH hS hl M' v hM
  have hts := Y.2.2.2.2.1
  have hK := Y.2.2.2.2.2.2.2.1.1
  have hE := Y.2.2.2.2.2.2.2.1
  have hA := zA_in rfl Y hS
  obtain ⟨r1, r2, r3, r4⟩ := Y.2.2.2.2.2.2.2.2.2.2.2
  obtain ⟨w1, w2, w3, w4, w5, w6⟩ := hm
  refine va_runS (rest := S) ⟨Y.1, Y.2.1, Y.2.2.1, Y.2.2.2.1, hts⟩ hM ⟨callB_of na hts (zgoodIn w1) rfl rfl rfl (hts _ (zmT w2 rfl)) (hts _ (zmT hlk rfl)) ⟨w4, w5, w6⟩ (zroomR hd r1 r2 w3), hts _ (zmT hi rfl)⟩ ⟨zPc_blind, fun U hU hW => ⟨rfl, by rw [hU], by rw [hU]; exact hH, zEv_call hE hS hA hU hW⟩⟩ rfl hna hl.1 hst (lv_room hW) dc ⟨r3, r4⟩
theorem zv_callNv {y : MethodName} {ybs : ByteArray} {ynL : Nat} {yret : Option FieldType} {d idx na : Nat} {host : String} {oc : Option (zM × Int)} {X : zM → Int → Option τ} (As : List Value) (hc : zCn κ.2.1 y ybs ynL yret d 0 w As M oc) (hm : zMd y ybs ynL yret na) (hi : Cond.static y ∈ lw_tbl) (hlk : (own, idx, y, host) ∈ znt) (hna : As.length = na) (hd : d + 1 ≤ n.2.2) (hst : S0 = As.reverse ++ S) (hW : (S.map fun v => v.category).sum ≤ 8) (dc : decode bs pc = .ok (.invokestatic idx, 3))
    (k : ∀ M' v, oc = some (M', v) → zV bs own nL ret κ w n (pc + 3) L (S) M' (X M' v) E) : zV bs own nL ret κ w n pc L S0 M (zbd oc X) E := by
  refine zv_run hc ?_ k
  rintro p l e R s m args below meth cd A Qc mc ms rfl Y H locs ls hH hS hl M' v hM
  have hts := Y.2.2.2.2.1
  have hK := Y.2.2.2.2.2.2.2.1.1
  have hE := Y.2.2.2.2.2.2.2.1
  have hA := zA_in rfl Y hS
  obtain ⟨r1, r2, r3, r4⟩ := Y.2.2.2.2.2.2.2.2.2.2.2
  obtain ⟨w1, w2, w3, w4, w5, w6⟩ := hm
  refine va_runSN (rest := S) ⟨Y.1, Y.2.1, Y.2.2.1, Y.2.2.2.1, hts⟩ hM ⟨va_cnB na hts (zgoodIn w1) rfl rfl rfl (hE.2.1 _ hlk) (hts _ (zmT w2 rfl)) ⟨w4, w5, w6⟩ (zroomR hd r1 r2 w3), hts _ (zmT hi rfl), trivial⟩ ⟨zPc_blind, fun U hU hW => ⟨rfl, by rw [hU], by rw [hU]; exact hH, zEv_call hE hS hA hU hW⟩⟩ rfl hna hl.1 hst (lv_room hW) dc ⟨r3, r4⟩
theorem zv_callVi {y : MethodName} {ybs : ByteArray} {ynL : Nat} {yret : Option FieldType} {d c b idx na N : Nat} {C : String} {T : u_T} {ty : Nat → FieldType} {oc : Option (zM × Int)} {X : zM → Int → Option τ} (As : List Value) (hc : zCn κ.2.1 y ybs ynL yret d 1 w (rn w b :: As) M oc) (hm : zMd y ybs ynL yret na) (hi : Cond.instanceMethod y ∈ lw_tbl) (hs : Cond.selects C y y ∈ lw_tbl) (hlk : Cond.methodLink own idx y ∈ lw_tbl) (hC : zCd c C T N ty) (hb : ztag w.1 b = c + 1) (hna : As.length = na) (hd : d + 1 ≤ n.2.2) (hst : S0 = As.reverse ++ rn w b :: S) (hW : (S.map fun v => v.category).sum ≤ 8) (dc : decode bs pc = .ok (.invokevirtual idx, 3))
    (k : ∀ M' v, oc = some (M', v) → zV bs own nL ret κ w n (pc + 3) L (iv v :: S) M' (X M' v) E) : zV bs own nL ret κ w n pc L S0 M (zbd oc X) E := by
  refine zv_run hc ?_ k
  rintro p l e R s m args below meth cd A Qc mc ms rfl Y H locs ls hH hS hl M' v hM
  obtain ⟨cell, q1, q2, q3, q4⟩ := zok_obj (hH b (by rw [hb]; omega)) hb hC.2.2.1
  have hts := Y.2.2.2.2.1
  have hK := Y.2.2.2.2.2.2.2.1.1
  have hE := Y.2.2.2.2.2.2.2.1
  have hA := zA_in rfl Y hS
  obtain ⟨r1, r2, r3, r4⟩ := Y.2.2.2.2.2.2.2.2.2.2.2
  obtain ⟨w1, w2, w3, w4, w5, w6⟩ := hm
  refine va_runV (rest := S) ⟨Y.1, Y.2.1, Y.2.2.1, Y.2.2.2.1, hts⟩ hM ⟨callB_of na hts (zgoodIn w1) rfl rfl rfl (hts _ (zmT w2 rfl)) (hts _ (zmT hlk rfl)) ⟨w4, w5, w6⟩ (zroomR hd r1 r2 w3), hts _ (zmT hi rfl), hts _ (zmT hs rfl)⟩ ⟨zPc_blind, ⟨cell, q1, by rw [q3]; rfl, by rw [q2]; exact (hK.1 c _ hC.1).2.1⟩, fun U hU hW => ⟨rfl, by rw [hU], by rw [hU]; exact hH, zEv_call hE hS hA hU hW⟩⟩ rfl hna hl.1 hst (lv_room hW) dc ⟨r3, r4⟩
theorem zv_callSi {y : MethodName} {ybs : ByteArray} {ynL : Nat} {yret : Option FieldType} {d idx na : Nat} {oc : Option (zM × Int)} {X : zM → Int → Option τ} (As : List Value) (hc : zCn κ.2.1 y ybs ynL yret d 1 w As M oc) (hm : zMd y ybs ynL yret na) (hi : Cond.static y ∈ lw_tbl) (hlk : Cond.methodLink own idx y ∈ lw_tbl) (hna : As.length = na) (hd : d + 1 ≤ n.2.2) (hst : S0 = As.reverse ++ S) (hW : (S.map fun v => v.category).sum ≤ 8) (dc : decode bs pc = .ok (.invokestatic idx, 3))
    (k : ∀ M' v, oc = some (M', v) → zV bs own nL ret κ w n (pc + 3) L (iv v :: S) M' (X M' v) E) : zV bs own nL ret κ w n pc L S0 M (zbd oc X) E := by
  refine zv_run hc ?_ k
  rintro p l e R s m args below meth cd A Qc mc ms rfl Y H locs ls hH hS hl M' v hM
  have hts := Y.2.2.2.2.1
  have hK := Y.2.2.2.2.2.2.2.1.1
  have hE := Y.2.2.2.2.2.2.2.1
  have hA := zA_in rfl Y hS
  obtain ⟨r1, r2, r3, r4⟩ := Y.2.2.2.2.2.2.2.2.2.2.2
  obtain ⟨w1, w2, w3, w4, w5, w6⟩ := hm
  refine va_runS (rest := S) ⟨Y.1, Y.2.1, Y.2.2.1, Y.2.2.2.1, hts⟩ hM ⟨callB_of na hts (zgoodIn w1) rfl rfl rfl (hts _ (zmT w2 rfl)) (hts _ (zmT hlk rfl)) ⟨w4, w5, w6⟩ (zroomR hd r1 r2 w3), hts _ (zmT hi rfl)⟩ ⟨zPc_blind, fun U hU hW => ⟨rfl, by rw [hU], by rw [hU]; exact hH, zEv_call hE hS hA hU hW⟩⟩ rfl hna hl.1 hst (lv_room hW) dc ⟨r3, r4⟩
theorem zv_callNi {y : MethodName} {ybs : ByteArray} {ynL : Nat} {yret : Option FieldType} {d idx na : Nat} {host : String} {oc : Option (zM × Int)} {X : zM → Int → Option τ} (As : List Value) (hc : zCn κ.2.1 y ybs ynL yret d 1 w As M oc) (hm : zMd y ybs ynL yret na) (hi : Cond.static y ∈ lw_tbl) (hlk : (own, idx, y, host) ∈ znt) (hna : As.length = na) (hd : d + 1 ≤ n.2.2) (hst : S0 = As.reverse ++ S) (hW : (S.map fun v => v.category).sum ≤ 8) (dc : decode bs pc = .ok (.invokestatic idx, 3))
    (k : ∀ M' v, oc = some (M', v) → zV bs own nL ret κ w n (pc + 3) L (iv v :: S) M' (X M' v) E) : zV bs own nL ret κ w n pc L S0 M (zbd oc X) E := by
  refine zv_run hc ?_ k
  rintro p l e R s m args below meth cd A Qc mc ms rfl Y H locs ls hH hS hl M' v hM
  have hts := Y.2.2.2.2.1
  have hK := Y.2.2.2.2.2.2.2.1.1
  have hE := Y.2.2.2.2.2.2.2.1
  have hA := zA_in rfl Y hS
  obtain ⟨r1, r2, r3, r4⟩ := Y.2.2.2.2.2.2.2.2.2.2.2
  obtain ⟨w1, w2, w3, w4, w5, w6⟩ := hm
  refine va_runSN (rest := S) ⟨Y.1, Y.2.1, Y.2.2.1, Y.2.2.2.1, hts⟩ hM ⟨va_cnB na hts (zgoodIn w1) rfl rfl rfl (hE.2.1 _ hlk) (hts _ (zmT w2 rfl)) ⟨w4, w5, w6⟩ (zroomR hd r1 r2 w3), hts _ (zmT hi rfl), trivial⟩ ⟨zPc_blind, fun U hU hW => ⟨rfl, by rw [hU], by rw [hU]; exact hH, zEv_call hE hS hA hU hW⟩⟩ rfl hna hl.1 hst (lv_room hW) dc ⟨r3, r4⟩
theorem zv_callVl {y : MethodName} {ybs : ByteArray} {ynL : Nat} {yret : Option FieldType} {d c b idx na N : Nat} {C : String} {T : u_T} {ty : Nat → FieldType} {oc : Option (zM × Int)} {X : zM → Int → Option τ} (As : List Value) (hc : zCn κ.2.1 y ybs ynL yret d 2 w (rn w b :: As) M oc) (hm : zMd y ybs ynL yret na) (hi : Cond.instanceMethod y ∈ lw_tbl) (hs : Cond.selects C y y ∈ lw_tbl) (hlk : Cond.methodLink own idx y ∈ lw_tbl) (hC : zCd c C T N ty) (hb : ztag w.1 b = c + 1) (hna : As.length = na) (hd : d + 1 ≤ n.2.2) (hst : S0 = As.reverse ++ rn w b :: S) (hW : (S.map fun v => v.category).sum ≤ 8) (dc : decode bs pc = .ok (.invokevirtual idx, 3))
    (k : ∀ M' v, oc = some (M', v) → zV bs own nL ret κ w n (pc + 3) L (jv v :: S) M' (X M' v) E) : zV bs own nL ret κ w n pc L S0 M (zbd oc X) E := by
  refine zv_run hc ?_ k
  rintro p l e R s m args below meth cd A Qc mc ms rfl Y H locs ls hH hS hl M' v hM
  obtain ⟨cell, q1, q2, q3, q4⟩ := zok_obj (hH b (by rw [hb]; omega)) hb hC.2.2.1
  have hts := Y.2.2.2.2.1
  have hK := Y.2.2.2.2.2.2.2.1.1
  have hE := Y.2.2.2.2.2.2.2.1
  have hA := zA_in rfl Y hS
  obtain ⟨r1, r2, r3, r4⟩ := Y.2.2.2.2.2.2.2.2.2.2.2
  obtain ⟨w1, w2, w3, w4, w5, w6⟩ := hm
  refine va_runV (rest := S) ⟨Y.1, Y.2.1, Y.2.2.1, Y.2.2.2.1, hts⟩ hM ⟨callB_of na hts (zgoodIn w1) rfl rfl rfl (hts _ (zmT w2 rfl)) (hts _ (zmT hlk rfl)) ⟨w4, w5, w6⟩ (zroomR hd r1 r2 w3), hts _ (zmT hi rfl), hts _ (zmT hs rfl)⟩ ⟨zPc_blind, ⟨cell, q1, by rw [q3]; rfl, by rw [q2]; exact (hK.1 c _ hC.1).2.1⟩, fun U hU hW => ⟨rfl, by rw [hU], by rw [hU]; exact hH, zEv_call hE hS hA hU hW⟩⟩ rfl hna hl.1 hst (lv_room hW) dc ⟨r3, r4⟩
theorem zv_callSl {y : MethodName} {ybs : ByteArray} {ynL : Nat} {yret : Option FieldType} {d idx na : Nat} {oc : Option (zM × Int)} {X : zM → Int → Option τ} (As : List Value) (hc : zCn κ.2.1 y ybs ynL yret d 2 w As M oc) (hm : zMd y ybs ynL yret na) (hi : Cond.static y ∈ lw_tbl) (hlk : Cond.methodLink own idx y ∈ lw_tbl) (hna : As.length = na) (hd : d + 1 ≤ n.2.2) (hst : S0 = As.reverse ++ S) (hW : (S.map fun v => v.category).sum ≤ 8) (dc : decode bs pc = .ok (.invokestatic idx, 3))
    (k : ∀ M' v, oc = some (M', v) → zV bs own nL ret κ w n (pc + 3) L (jv v :: S) M' (X M' v) E) : zV bs own nL ret κ w n pc L S0 M (zbd oc X) E := by
  refine zv_run hc ?_ k
  rintro p l e R s m args below meth cd A Qc mc ms rfl Y H locs ls hH hS hl M' v hM
  have hts := Y.2.2.2.2.1
  have hK := Y.2.2.2.2.2.2.2.1.1
  have hE := Y.2.2.2.2.2.2.2.1
  have hA := zA_in rfl Y hS
  obtain ⟨r1, r2, r3, r4⟩ := Y.2.2.2.2.2.2.2.2.2.2.2
  obtain ⟨w1, w2, w3, w4, w5, w6⟩ := hm
  refine va_runS (rest := S) ⟨Y.1, Y.2.1, Y.2.2.1, Y.2.2.2.1, hts⟩ hM ⟨callB_of na hts (zgoodIn w1) rfl rfl rfl (hts _ (zmT w2 rfl)) (hts _ (zmT hlk rfl)) ⟨w4, w5, w6⟩ (zroomR hd r1 r2 w3), hts _ (zmT hi rfl)⟩ ⟨zPc_blind, fun U hU hW => ⟨rfl, by rw [hU], by rw [hU]; exact hH, zEv_call hE hS hA hU hW⟩⟩ rfl hna hl.1 hst (lv_room hW) dc ⟨r3, r4⟩
theorem zv_callNl {y : MethodName} {ybs : ByteArray} {ynL : Nat} {yret : Option FieldType} {d idx na : Nat} {host : String} {oc : Option (zM × Int)} {X : zM → Int → Option τ} (As : List Value) (hc : zCn κ.2.1 y ybs ynL yret d 2 w As M oc) (hm : zMd y ybs ynL yret na) (hi : Cond.static y ∈ lw_tbl) (hlk : (own, idx, y, host) ∈ znt) (hna : As.length = na) (hd : d + 1 ≤ n.2.2) (hst : S0 = As.reverse ++ S) (hW : (S.map fun v => v.category).sum ≤ 8) (dc : decode bs pc = .ok (.invokestatic idx, 3))
    (k : ∀ M' v, oc = some (M', v) → zV bs own nL ret κ w n (pc + 3) L (jv v :: S) M' (X M' v) E) : zV bs own nL ret κ w n pc L S0 M (zbd oc X) E := by
  refine zv_run hc ?_ k
  rintro p l e R s m args below meth cd A Qc mc ms rfl Y H locs ls hH hS hl M' v hM
  have hts := Y.2.2.2.2.1
  have hK := Y.2.2.2.2.2.2.2.1.1
  have hE := Y.2.2.2.2.2.2.2.1
  have hA := zA_in rfl Y hS
  obtain ⟨r1, r2, r3, r4⟩ := Y.2.2.2.2.2.2.2.2.2.2.2
  obtain ⟨w1, w2, w3, w4, w5, w6⟩ := hm
  refine va_runSN (rest := S) ⟨Y.1, Y.2.1, Y.2.2.1, Y.2.2.2.1, hts⟩ hM ⟨va_cnB na hts (zgoodIn w1) rfl rfl rfl (hE.2.1 _ hlk) (hts _ (zmT w2 rfl)) ⟨w4, w5, w6⟩ (zroomR hd r1 r2 w3), hts _ (zmT hi rfl), trivial⟩ ⟨zPc_blind, fun U hU hW => ⟨rfl, by rw [hU], by rw [hU]; exact hH, zEv_call hE hS hA hU hW⟩⟩ rfl hna hl.1 hst (lv_room hW) dc ⟨r3, r4⟩
theorem zv_callVr {y : MethodName} {ybs : ByteArray} {ynL : Nat} {yret : Option FieldType} {d c b idx na N : Nat} {C : String} {T : u_T} {ty : Nat → FieldType} {oc : Option (zM × Int)} {X : zM → Int → Option τ} (As : List Value) (hc : zCn κ.2.1 y ybs ynL yret d 3 w (rn w b :: As) M oc) (hm : zMd y ybs ynL yret na) (hi : Cond.instanceMethod y ∈ lw_tbl) (hs : Cond.selects C y y ∈ lw_tbl) (hlk : Cond.methodLink own idx y ∈ lw_tbl) (hC : zCd c C T N ty) (hb : ztag w.1 b = c + 1) (hna : As.length = na) (hd : d + 1 ≤ n.2.2) (hst : S0 = As.reverse ++ rn w b :: S) (hW : (S.map fun v => v.category).sum ≤ 8) (dc : decode bs pc = .ok (.invokevirtual idx, 3))
    (k : ∀ M' v, oc = some (M', v) → zV bs own nL ret κ w n (pc + 3) L (rn w v.toNat :: S) M' (X M' v) E) : zV bs own nL ret κ w n pc L S0 M (zbd oc X) E := by
  refine zv_run hc ?_ k
  rintro p l e R s m args below meth cd A Qc mc ms rfl Y H locs ls hH hS hl M' v hM
  obtain ⟨cell, q1, q2, q3, q4⟩ := zok_obj (hH b (by rw [hb]; omega)) hb hC.2.2.1
  have hts := Y.2.2.2.2.1
  have hK := Y.2.2.2.2.2.2.2.1.1
  have hE := Y.2.2.2.2.2.2.2.1
  have hA := zA_in rfl Y hS
  obtain ⟨r1, r2, r3, r4⟩ := Y.2.2.2.2.2.2.2.2.2.2.2
  obtain ⟨w1, w2, w3, w4, w5, w6⟩ := hm
  refine va_runV (rest := S) ⟨Y.1, Y.2.1, Y.2.2.1, Y.2.2.2.1, hts⟩ hM ⟨callB_of na hts (zgoodIn w1) rfl rfl rfl (hts _ (zmT w2 rfl)) (hts _ (zmT hlk rfl)) ⟨w4, w5, w6⟩ (zroomR hd r1 r2 w3), hts _ (zmT hi rfl), hts _ (zmT hs rfl)⟩ ⟨zPc_blind, ⟨cell, q1, by rw [q3]; rfl, by rw [q2]; exact (hK.1 c _ hC.1).2.1⟩, fun U hU hW => ⟨rfl, by rw [hU], by rw [hU]; exact hH, zEv_call hE hS hA hU hW⟩⟩ rfl hna hl.1 hst (lv_room hW) dc ⟨r3, r4⟩
theorem zv_callSr {y : MethodName} {ybs : ByteArray} {ynL : Nat} {yret : Option FieldType} {d idx na : Nat} {oc : Option (zM × Int)} {X : zM → Int → Option τ} (As : List Value) (hc : zCn κ.2.1 y ybs ynL yret d 3 w As M oc) (hm : zMd y ybs ynL yret na) (hi : Cond.static y ∈ lw_tbl) (hlk : Cond.methodLink own idx y ∈ lw_tbl) (hna : As.length = na) (hd : d + 1 ≤ n.2.2) (hst : S0 = As.reverse ++ S) (hW : (S.map fun v => v.category).sum ≤ 8) (dc : decode bs pc = .ok (.invokestatic idx, 3))
    (k : ∀ M' v, oc = some (M', v) → zV bs own nL ret κ w n (pc + 3) L (rn w v.toNat :: S) M' (X M' v) E) : zV bs own nL ret κ w n pc L S0 M (zbd oc X) E := by
  refine zv_run hc ?_ k
  rintro p l e R s m args below meth cd A Qc mc ms rfl Y H locs ls hH hS hl M' v hM
  have hts := Y.2.2.2.2.1
  have hK := Y.2.2.2.2.2.2.2.1.1
  have hE := Y.2.2.2.2.2.2.2.1
  have hA := zA_in rfl Y hS
  obtain ⟨r1, r2, r3, r4⟩ := Y.2.2.2.2.2.2.2.2.2.2.2
  obtain ⟨w1, w2, w3, w4, w5, w6⟩ := hm
  refine va_runS (rest := S) ⟨Y.1, Y.2.1, Y.2.2.1, Y.2.2.2.1, hts⟩ hM ⟨callB_of na hts (zgoodIn w1) rfl rfl rfl (hts _ (zmT w2 rfl)) (hts _ (zmT hlk rfl)) ⟨w4, w5, w6⟩ (zroomR hd r1 r2 w3), hts _ (zmT hi rfl)⟩ ⟨zPc_blind, fun U hU hW => ⟨rfl, by rw [hU], by rw [hU]; exact hH, zEv_call hE hS hA hU hW⟩⟩ rfl hna hl.1 hst (lv_room hW) dc ⟨r3, r4⟩
theorem zv_callNr {y : MethodName} {ybs : ByteArray} {ynL : Nat} {yret : Option FieldType} {d idx na : Nat} {host : String} {oc : Option (zM × Int)} {X : zM → Int → Option τ} (As : List Value) (hc : zCn κ.2.1 y ybs ynL yret d 3 w As M oc) (hm : zMd y ybs ynL yret na) (hi : Cond.static y ∈ lw_tbl) (hlk : (own, idx, y, host) ∈ znt) (hna : As.length = na) (hd : d + 1 ≤ n.2.2) (hst : S0 = As.reverse ++ S) (hW : (S.map fun v => v.category).sum ≤ 8) (dc : decode bs pc = .ok (.invokestatic idx, 3))
    (k : ∀ M' v, oc = some (M', v) → zV bs own nL ret κ w n (pc + 3) L (rn w v.toNat :: S) M' (X M' v) E) : zV bs own nL ret κ w n pc L S0 M (zbd oc X) E := by
  refine zv_run hc ?_ k
  rintro p l e R s m args below meth cd A Qc mc ms rfl Y H locs ls hH hS hl M' v hM
  have hts := Y.2.2.2.2.1
  have hK := Y.2.2.2.2.2.2.2.1.1
  have hE := Y.2.2.2.2.2.2.2.1
  have hA := zA_in rfl Y hS
  obtain ⟨r1, r2, r3, r4⟩ := Y.2.2.2.2.2.2.2.2.2.2.2
  obtain ⟨w1, w2, w3, w4, w5, w6⟩ := hm
  refine va_runSN (rest := S) ⟨Y.1, Y.2.1, Y.2.2.1, Y.2.2.2.1, hts⟩ hM ⟨va_cnB na hts (zgoodIn w1) rfl rfl rfl (hE.2.1 _ hlk) (hts _ (zmT w2 rfl)) ⟨w4, w5, w6⟩ (zroomR hd r1 r2 w3), hts _ (zmT hi rfl), trivial⟩ ⟨zPc_blind, fun U hU hW => ⟨rfl, by rw [hU], by rw [hU]; exact hH, zEv_call hE hS hA hU hW⟩⟩ rfl hna hl.1 hst (lv_room hW) dc ⟨r3, r4⟩
end zX
section zY
variable {bs : ByteArray} {own : String} {nL : Nat} {κ : zC} {w : zW} {n : Nat × Nat × Nat} {pc : Nat} {L : List (Nat × Value)} {M : zM}
theorem zv_iret {v : Int} (d : decode bs pc = .ok (.ireturn, 1)) : zV bs own nL (some .int) κ w n pc L [iv v] M (some (M, v)) (zRt κ w n 1) := by
  intro t ho hE
  cases ho
  obtain ⟨p, l, e, R, s, m, args, below, meth, cd, A, Qc, mc, ms⟩ := κ
  intro Y H locs ls hH hS hl
  obtain ⟨h1, h2, hq⟩ := hE
  refine W.widen h1 h2 ?_
  exact W.iret Y.1 Y.2.1 Y.2.2.2.2.2.1 (fun u hu _ => hq H locs u hH hS hu) (fun q hq => hS.2.2 q hq) d (hlocks := Y.2.2.2.2.2.2.1)
theorem zv_zret {v : Int} (d : decode bs pc = .ok (.ireturn, 1)) : zV bs own nL (some .boolean) κ w n pc L [iv v] M (zgd (v = 0 ∨ v = 1) (some (M, v))) (zRt κ w n 1) := zv_gd fun hg => by
  intro t ho hE
  cases ho
  obtain ⟨p, l, e, R, s, m, args, below, meth, cd, A, Qc, mc, ms⟩ := κ
  intro Y H locs ls hH hS hl
  obtain ⟨h1, h2, hq⟩ := hE
  refine W.widen h1 h2 ?_
  exact W.zret (ty := .boolean) Y.1 Y.2.1 Y.2.2.2.2.2.1 (znz hg) (fun u hu _ => hq H locs u hH hS hu) (fun q hq => hS.2.2 q hq) d (hlocks := Y.2.2.2.2.2.2.1)
theorem zv_lret {v : Int} (d : decode bs pc = .ok (.lreturn, 1)) : zV bs own nL (some .long) κ w n pc L [jv v] M (some (M, v)) (zRt κ w n 2) := by
  intro t ho hE
  cases ho
  obtain ⟨p, l, e, R, s, m, args, below, meth, cd, A, Qc, mc, ms⟩ := κ
  intro Y H locs ls hH hS hl
  obtain ⟨h1, h2, hq⟩ := hE
  refine W.widen h1 h2 ?_
  exact W.lret Y.1 Y.2.1 Y.2.2.2.2.2.1 (fun u hu _ => hq H locs u hH hS hu) (fun q hq => hS.2.2 q hq) d (hlocks := Y.2.2.2.2.2.2.1)
theorem zv_vret {v : Int} (d : decode bs pc = .ok (.return_, 1)) : zV bs own nL none κ w n pc L [] M (some (M, v)) (zRt κ w n 0) := by
  intro t ho hE
  cases ho
  obtain ⟨p, l, e, R, s, m, args, below, meth, cd, A, Qc, mc, ms⟩ := κ
  intro Y H locs ls hH hS hl
  obtain ⟨h1, h2, hq⟩ := hE
  refine W.widen h1 h2 ?_
  exact W.vret Y.1 Y.2.1 Y.2.2.2.2.2.1 (fun u hu _ => hq H locs u hH hS hu) (fun q hq => hS.2.2 q hq) d (hlocks := Y.2.2.2.2.2.2.1)
theorem zv_rret {r : Nat} {rt : FieldType} (hrt : (∃ n, rt = .object n) ∨ ∃ t, rt = .array t) (d : decode bs pc = .ok (.areturn, 1)) : zV bs own nL (some rt) κ w n pc L [rn w r] M (some (M, (r : Int))) (zRt κ w n 3) := by
  intro t ho hE
  cases ho
  obtain ⟨p, l, e, R, s, m, args, below, meth, cd, A, Qc, mc, ms⟩ := κ
  intro Y H locs ls hH hS hl
  obtain ⟨h1, h2, hq⟩ := hE
  refine W.widen h1 h2 ?_
  exact W.aret Y.1 Y.2.1 Y.2.2.2.2.2.1 hrt (Or.inr ⟨_, rfl⟩) (fun u hu _ => hq H locs u hH hS hu) (fun q hq => hS.2.2 q hq) d (hlocks := Y.2.2.2.2.2.2.1)
end zY
/-- a contract, out of the walk of its body -/
theorem zCn_of {l : Launch} {y : MethodName} {bs : ByteArray} {own : String} {nL : Nat} {ret : Option FieldType} {d rc : Nat} {w : zW} {avs : List Value} {M : zM} {o : Option (zM × Int)} (hy : plainName y.cls = true) (hown : y.cls = own) (hwk : zWk w) (hn : (lg_sl avs).length ≤ nL) (L0 : List (Nat × Value)) (hL : lv_args 0 avs = L0)
    (h : ∀ κ : zC, κ.2.1 = l → zV bs own nL ret κ w (0, 0, d) 0 L0 [] M o (zRt κ w (0, 0, d) rc)) : zCn l y bs nL ret d rc w avs M o := by
  intro M' v ho sz
  refine Met.ofW (cc := bs) (maxL := nL) (ret := ret) hy rfl ?_
  intro p e s m args below meth c s₁ B hml hv
  obtain ⟨rfl, hsz, hP, hK⟩ := hv
  have hts : ∀ x ∈ zws y bs nL ret, x.before avs.toArray s = true := atoms_spec (ws := zws y bs nL ret) B.pre
  have hcls : s.vm.findClass y.cls = some m.cls := findClass_of_methodNamed B.named
  have hl := lv_entry avs (n := nL) hn
  rw [lg_entry_eq]
  rw [hL] at hl
  have K := h (p, l, e, (headSpec (zws y bs nL ret) (zroom d)).room, s, m, avs.toArray, below, meth, c, zA w sz, zQk rc w M' v sz, 0, 0) rfl (M', v) ho ⟨Nat.le_refl _, Nat.le_refl _, fun H locs u h1 h2 h3 => ⟨rfl, by rw [h3]; exact h1, h2.F h3⟩⟩
    ⟨B.exec, B.bytes, hml, by rw [← hown]; exact hcls, fun x hx => hts x (List.mem_cons_of_mem _ hx), B.returns, B.notSynchronized, hK, hwk, fun r hr => Or.inl ⟨r, hr, rfl⟩, fun q hq => Or.inr (by rw [← hsz]; exact hq), Nat.le_refl _, Nat.le_refl _, Nat.le_refl _, Nat.le_refl _⟩
    s.heap [] _ hP (va_S.rf) hl
  exact K

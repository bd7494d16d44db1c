/-! numbers -/
theorem zi_add (a b : Int) : Int32.ofInt (a + b) = Int32.ofInt a + Int32.ofInt b := Int32.ofInt_add a b
theorem zi_sub (a b : Int) : Int32.ofInt (a - b) = Int32.ofInt a - Int32.ofInt b := Int32.ofInt_sub a b
theorem zi_mul (a b : Int) : Int32.ofInt (a * b) = Int32.ofInt a * Int32.ofInt b := Int32.ofInt_mul a b
theorem zj_add (a b : Int) : Int64.ofInt (a + b) = Int64.ofInt a + Int64.ofInt b := Int64.ofInt_add a b
theorem zj_sub (a b : Int) : Int64.ofInt (a - b) = Int64.ofInt a - Int64.ofInt b := Int64.ofInt_sub a b
theorem zj_mul (a b : Int) : Int64.ofInt (a * b) = Int64.ofInt a * Int64.ofInt b := Int64.ofInt_mul a b
theorem zj_neg (a : Int) : Int64.ofInt (-a) = - Int64.ofInt a := Int64.ofInt_neg a
theorem zi_int {a : Int} (h : zr a) : (Int32.ofInt a).toInt = a := Int32.toInt_ofInt_of_le (by have := h.1; omega) (by have := h.2; omega)
theorem zj_int {a : Int} (h : zrl a) : (Int64.ofInt a).toInt = a := Int64.toInt_ofInt_of_le (by have := h.1; omega) (by have := h.2; omega)
theorem zi_lt {a b : Int} (ha : zr a) (hb : zr b) : Int32.ofInt a < Int32.ofInt b ↔ a < b := by rw [Int32.lt_iff_toInt_lt, zi_int ha, zi_int hb]
theorem zi_le {a b : Int} (ha : zr a) (hb : zr b) : Int32.ofInt a ≤ Int32.ofInt b ↔ a ≤ b := by rw [Int32.le_iff_toInt_le, zi_int ha, zi_int hb]
theorem zi_eq {a b : Int} (ha : zr a) (hb : zr b) : Int32.ofInt a = Int32.ofInt b ↔ a = b := by rw [← Int32.toInt_inj, zi_int ha, zi_int hb]
theorem zj_lt {a b : Int} (ha : zrl a) (hb : zrl b) : Int64.ofInt a < Int64.ofInt b ↔ a < b := by rw [Int64.lt_iff_toInt_lt, zj_int ha, zj_int hb]
theorem zj_le {a b : Int} (ha : zrl a) (hb : zrl b) : Int64.ofInt a ≤ Int64.ofInt b ↔ a ≤ b := by rw [Int64.le_iff_toInt_le, zj_int ha, zj_int hb]
theorem zj_eq {a b : Int} (ha : zrl a) (hb : zrl b) : Int64.ofInt a = Int64.ofInt b ↔ a = b := by rw [← Int64.toInt_inj, zj_int ha, zj_int hb]
theorem zi_0 : Int32.ofInt 0 = 0 := rfl
theorem zr_0 : zr 0 := by decide
theorem zi_div {a b : Int} (ha : 0 ≤ a ∧ a ≤ 2147483647) (hb : 0 < b ∧ b ≤ 2147483647) : Int32.ofInt (a / b) = Int32.ofInt a / Int32.ofInt b := by
  apply Int32.toInt_inj.mp
  have h1 : 0 ≤ a / b := Int.ediv_nonneg ha.1 (by omega)
  have h2 : a / b ≤ a := Int.ediv_le_self b ha.1
  rw [zi_int ⟨by omega, by omega⟩, Int32.toInt_div, zi_int ⟨by omega, by omega⟩, zi_int ⟨by omega, by omega⟩, Int.tdiv_eq_ediv_of_nonneg ha.1]
  rw [Int.bmod_eq_of_le (by omega) (by omega)]
theorem zj_div {a b : Int} (ha : 0 ≤ a ∧ a ≤ 9223372036854775807) (hb : 0 < b ∧ b ≤ 9223372036854775807) : Int64.ofInt (a / b) = Int64.ofInt a / Int64.ofInt b := by
  apply Int64.toInt_inj.mp
  have h1 : 0 ≤ a / b := Int.ediv_nonneg ha.1 (by omega)
  have h2 : a / b ≤ a := Int.ediv_le_self b ha.1
  rw [zj_int ⟨by omega, by omega⟩, Int64.toInt_div, zj_int ⟨by omega, by omega⟩, zj_int ⟨by omega, by omega⟩, Int.tdiv_eq_ediv_of_nonneg ha.1]
  rw [Int.bmod_eq_of_le (by omega) (by omega)]
theorem zi_rem {a b : Int} (ha : 0 ≤ a ∧ a ≤ 2147483647) (hb : 0 < b ∧ b ≤ 2147483647) : Int32.ofInt (a % b) = Int32.ofInt a - Int32.ofInt a / Int32.ofInt b * Int32.ofInt b := by
  rw [← zi_div ha hb, ← zi_mul, ← zi_sub, Int.emod_def, Int.mul_comm]
theorem zj_rem {a b : Int} (ha : 0 ≤ a ∧ a ≤ 9223372036854775807) (hb : 0 < b ∧ b ≤ 9223372036854775807) : Int64.ofInt (a % b) = Int64.ofInt a - Int64.ofInt a / Int64.ofInt b * Int64.ofInt b := by
  rw [← zj_div ha hb, ← zj_mul, ← zj_sub, Int.emod_def, Int.mul_comm]
theorem zi_ne0 {b : Int} (hb : 0 < b ∧ b ≤ 2147483647) : ¬ Int32.ofInt b = 0 := by
  intro h
  have h2 := (zi_eq (a := b) (b := 0) ⟨by omega, by omega⟩ zr_0).mp (by rw [h]; rfl)
  omega
theorem zj_ne0 {b : Int} (hb : 0 < b ∧ b ≤ 9223372036854775807) : ¬ Int64.ofInt b = 0 := by
  intro h
  have h2 := (zj_eq (a := b) (b := 0) ⟨by omega, by omega⟩ (by decide)).mp (by rw [h]; rfl)
  omega
def zo_and (a b : Int) : Int := (Int32.ofInt a &&& Int32.ofInt b).toInt
def zo_or (a b : Int) : Int := (Int32.ofInt a ||| Int32.ofInt b).toInt
def zo_shl (a b : Int) : Int := (Int32.ofInt a <<< (Int32.ofInt b &&& 31)).toInt
def zo_shr (a b : Int) : Int := (Int32.ofInt a >>> (Int32.ofInt b &&& 31)).toInt
def zo_ushr (a b : Int) : Int := ((Int32.ofInt a).toUInt32 >>> ((Int32.ofInt b).toUInt32 &&& Int32.toUInt32 31)).toInt32.toInt
def zo_land (a b : Int) : Int := (Int64.ofInt a &&& Int64.ofInt b).toInt
def zo_lor (a b : Int) : Int := (Int64.ofInt a ||| Int64.ofInt b).toInt
def zo_lxor (a b : Int) : Int := (Int64.ofInt a ^^^ Int64.ofInt b).toInt
def zo_lshl (a b : Int) : Int := (Int64.ofInt a <<< ((Int32.ofInt b).toInt64 &&& 63)).toInt
def zo_lushr (a b : Int) : Int := ((Int64.ofInt a).toUInt64 >>> ((Int32.ofInt b).toInt64.toUInt64 &&& Int64.toUInt64 63)).toInt64.toInt
def zo_i2b (a : Int) : Int := ((Int32.ofInt a).toInt8.toInt32).toInt
theorem zi_back (x : Int32) : Int32.ofInt x.toInt = x := Int32.ofInt_toInt x
theorem zj_back (x : Int64) : Int64.ofInt x.toInt = x := Int64.ofInt_toInt x
theorem zi_l2i (a : Int) : (Int64.ofInt a).toInt32 = Int32.ofInt a := by
  apply Int32.toInt_inj.mp
  simp [Int32.toInt_ofInt, Int64.toInt_ofInt]
theorem zj_i2l {a : Int} (h : zr a) : (Int32.ofInt a).toInt64 = Int64.ofInt a := by
  apply Int64.toInt_inj.mp
  rw [Int32.toInt_toInt64, zi_int h, zj_int ⟨by have := h.1; omega, by have := h.2; omega⟩]
section zP
variable {τ : Type} {bs : ByteArray} {own : String} {nL : Nat} {ret : Option FieldType} {κ : zC} {w : zW} {n : Nat × Nat × Nat} {pc : Nat} {L : List (Nat × Value)} {S : List Value} {M : zM} {o : Option τ} {E : τ → Prop}
theorem zv_iconst {z : Int} (d : decode bs pc = .ok (.iconst z, 1)) (k : zV bs own nL ret κ w n (pc + 1) L (iv z :: S) M o E) : zV bs own nL ret κ w n pc L (S) M o E :=
  zv_w (fun _ _ _ _ _ _ _ _ _ _ _ _ _ _ _ _ hx hb hts hown hl k => lv_iconst hx hb d rfl k) k
theorem zv_bipush {z : Int} (d : decode bs pc = .ok (.bipush z, 2)) (h : (Int8.ofInt z).toInt32 = Int32.ofInt z) (k : zV bs own nL ret κ w n (pc + 2) L (iv z :: S) M o E) : zV bs own nL ret κ w n pc L (S) M o E :=
  zv_w (fun _ _ _ _ _ _ _ _ _ _ _ _ _ _ _ _ hx hb hts hown hl k => lv_bipush hx hb d h k) k
theorem zv_sipush {z : Int} (d : decode bs pc = .ok (.sipush z, 3)) (h : (Int16.ofInt z).toInt32 = Int32.ofInt z) (k : zV bs own nL ret κ w n (pc + 3) L (iv z :: S) M o E) : zV bs own nL ret κ w n pc L (S) M o E :=
  zv_w (fun _ _ _ _ _ _ _ _ _ _ _ _ _ _ _ _ hx hb hts hown hl k => lv_sipush hx hb d h k) k
theorem zv_ldc {z : Int} {i : Nat} {v : Int32} (d : decode bs pc = .ok (.ldc i, 2)) (hw : Cond.constant own i v ∈ lw_tbl) (h : v = Int32.ofInt z) (k : zV bs own nL ret κ w n (pc + 2) L (iv z :: S) M o E) : zV bs own nL ret κ w n pc L (S) M o E :=
  zv_w (fun _ _ _ _ _ _ _ _ _ _ _ _ _ _ _ _ hx hb hts hown hl k => lv_ldc hx hb hown (hts _ (zmT hw rfl)) d (h ▸ k)) k
theorem zv_ldcw {z : Int} {i : Nat} {v : Int32} (d : decode bs pc = .ok (.ldc_w i, 3)) (hw : Cond.constant own i v ∈ lw_tbl) (h : v = Int32.ofInt z) (k : zV bs own nL ret κ w n (pc + 3) L (iv z :: S) M o E) : zV bs own nL ret κ w n pc L (S) M o E :=
  zv_w (fun _ _ _ _ _ _ _ _ _ _ _ _ _ _ _ _ hx hb hts hown hl k => lv_ldcw hx hb hown (hts _ (zmT hw rfl)) d (h ▸ k)) k
theorem zv_ldc2 {z : Int} {i : Nat} {v : Int64} (d : decode bs pc = .ok (.ldc2_w i, 3)) (hw : Cond.constantLong own i v ∈ lw_tbl) (h : v = Int64.ofInt z) (k : zV bs own nL ret κ w n (pc + 3) L (jv z :: S) M o E) : zV bs own nL ret κ w n pc L (S) M o E :=
  zv_w (fun _ _ _ _ _ _ _ _ _ _ _ _ _ _ _ _ hx hb hts hown hl k => lv_ldc2 hx hb hown (hts _ (zmT hw rfl)) d (h ▸ k)) k
theorem zv_lconst {z : Int} {i : Fin 2} (d : decode bs pc = .ok (.lconst i, 1)) (h : Int64.ofNat (i : Nat) = Int64.ofInt z) (k : zV bs own nL ret κ w n (pc + 1) L (jv z :: S) M o E) : zV bs own nL ret κ w n pc L (S) M o E :=
  zv_w (fun _ _ _ _ _ _ _ _ _ _ _ _ _ _ _ _ hx hb hts hown hl k => lv_lconst hx hb d h k) k
theorem zv_iload_n {z : Int} {i : Fin 4} (d : decode bs pc = .ok (.iload_n i, 1)) (q : Nat) (h : L[q]? = some ((i : Nat), iv z)) (k : zV bs own nL ret κ w n (pc + 1) L (iv z :: S) M o E) : zV bs own nL ret κ w n pc L (S) M o E :=
  zv_w (fun _ _ _ _ _ _ _ _ _ _ _ _ _ _ _ _ hx hb hts hown hl k => lv_iload_n hx hb d rfl (lv_at hl q h) k) k
theorem zv_iload {z : Int} {i : Nat} (d : decode bs pc = .ok (.iload i, 2)) (q : Nat) (h : L[q]? = some (i, iv z)) (k : zV bs own nL ret κ w n (pc + 2) L (iv z :: S) M o E) : zV bs own nL ret κ w n pc L (S) M o E :=
  zv_w (fun _ _ _ _ _ _ _ _ _ _ _ _ _ _ _ _ hx hb hts hown hl k => lv_iload hx hb d (lv_at hl q h) k) k
theorem zv_lload_n {z : Int} {i : Fin 4} (d : decode bs pc = .ok (.lload_n i, 1)) (q : Nat) (h : L[q]? = some ((i : Nat), jv z)) (k : zV bs own nL ret κ w n (pc + 1) L (jv z :: S) M o E) : zV bs own nL ret κ w n pc L (S) M o E :=
  zv_w (fun _ _ _ _ _ _ _ _ _ _ _ _ _ _ _ _ hx hb hts hown hl k => lv_lload_n hx hb d rfl (lv_at hl q h) k) k
theorem zv_lload {z : Int} {i : Nat} (d : decode bs pc = .ok (.lload i, 2)) (q : Nat) (h : L[q]? = some (i, jv z)) (k : zV bs own nL ret κ w n (pc + 2) L (jv z :: S) M o E) : zV bs own nL ret κ w n pc L (S) M o E :=
  zv_w (fun _ _ _ _ _ _ _ _ _ _ _ _ _ _ _ _ hx hb hts hown hl k => lv_lload hx hb d (lv_at hl q h) k) k
theorem zv_aload_n {x : Nat} {i : Fin 4} (d : decode bs pc = .ok (.aload_n i, 1)) (q : Nat) (h : L[q]? = some ((i : Nat), Value.ref x)) (k : zV bs own nL ret κ w n (pc + 1) L (Value.ref x :: S) M o E) : zV bs own nL ret κ w n pc L (S) M o E :=
  zv_w (fun _ _ _ _ _ _ _ _ _ _ _ _ _ _ _ _ hx hb hts hown hl k => lv_aload_n hx hb d rfl (lv_at hl q h) k) k
theorem zv_aload {x : Nat} {i : Nat} (d : decode bs pc = .ok (.aload i, 2)) (q : Nat) (h : L[q]? = some (i, Value.ref x)) (k : zV bs own nL ret κ w n (pc + 2) L (Value.ref x :: S) M o E) : zV bs own nL ret κ w n pc L (S) M o E :=
  zv_w (fun _ _ _ _ _ _ _ _ _ _ _ _ _ _ _ _ hx hb hts hown hl k => lv_aload hx hb d (lv_at hl q h) k) k
theorem zv_rload_n {r : Nat} {i : Fin 4} (d : decode bs pc = .ok (.aload_n i, 1)) (q : Nat) (h : L[q]? = some ((i : Nat), rn w r)) (k : zV bs own nL ret κ w n (pc + 1) L (rn w r :: S) M o E) : zV bs own nL ret κ w n pc L (S) M o E :=
  zv_w (fun _ _ _ _ _ _ _ _ _ _ _ _ _ _ _ _ hx hb hts hown hl k => lv_aload_n hx hb d rfl (lv_at hl q h) k) k
theorem zv_rload {r : Nat} {i : Nat} (d : decode bs pc = .ok (.aload i, 2)) (q : Nat) (h : L[q]? = some (i, rn w r)) (k : zV bs own nL ret κ w n (pc + 2) L (rn w r :: S) M o E) : zV bs own nL ret κ w n pc L (S) M o E :=
  zv_w (fun _ _ _ _ _ _ _ _ _ _ _ _ _ _ _ _ hx hb hts hown hl k => lv_aload hx hb d (lv_at hl q h) k) k
theorem zv_istore_n {e : Int} {X : Int → Option τ} {i : Nat} {j : Fin 4} (hj : (j : Nat) = i) (d : decode bs pc = .ok (.istore_n j, 1)) (Lf : Int → List (Nat × Value)) (hn : i < nL) (hl : ∀ x, (i, iv x) :: L.filter (fun q => !(q.1 == i) && !(q.1 + 1 == i && q.2.category == 2)) = Lf x) (k : ∀ x, zV bs own nL ret κ w n (pc + 1) (Lf x) S M (X x) E) : zV bs own nL ret κ w n pc L (iv e :: S) M (zlt e X) E :=
  zv_wl (L' := Lf e) (fun _ _ _ _ _ _ _ _ _ _ _ _ _ _ _ _ hx hb h k => lv_istore_n hx hb d hj h hn (hl e) k) (k e)
theorem zv_istore {e : Int} {X : Int → Option τ} {i : Nat} (d : decode bs pc = .ok (.istore i, 2)) (Lf : Int → List (Nat × Value)) (hn : i < nL) (hl : ∀ x, (i, iv x) :: L.filter (fun q => !(q.1 == i) && !(q.1 + 1 == i && q.2.category == 2)) = Lf x) (k : ∀ x, zV bs own nL ret κ w n (pc + 2) (Lf x) S M (X x) E) : zV bs own nL ret κ w n pc L (iv e :: S) M (zlt e X) E :=
  zv_wl (L' := Lf e) (fun _ _ _ _ _ _ _ _ _ _ _ _ _ _ _ _ hx hb h k => lv_istore hx hb d h hn (hl e) k) (k e)
theorem zv_lstore_n {e : Int} {X : Int → Option τ} {i : Nat} {j : Fin 4} (hj : (j : Nat) = i) (d : decode bs pc = .ok (.lstore_n j, 1)) (Lf : Int → List (Nat × Value)) (hn : i + 1 < nL) (hl : ∀ x, (i, jv x) :: L.filter (fun q => !(q.1 == i) && (!(q.1 == i + 1) && !(q.1 + 1 == i && q.2.category == 2))) = Lf x) (k : ∀ x, zV bs own nL ret κ w n (pc + 1) (Lf x) S M (X x) E) : zV bs own nL ret κ w n pc L (jv e :: S) M (zlt e X) E :=
  zv_wl (L' := Lf e) (fun _ _ _ _ _ _ _ _ _ _ _ _ _ _ _ _ hx hb h k => lv_lstore_n hx hb d hj h hn (hl e) k) (k e)
theorem zv_lstore {e : Int} {X : Int → Option τ} {i : Nat} (d : decode bs pc = .ok (.lstore i, 2)) (Lf : Int → List (Nat × Value)) (hn : i + 1 < nL) (hl : ∀ x, (i, jv x) :: L.filter (fun q => !(q.1 == i) && (!(q.1 == i + 1) && !(q.1 + 1 == i && q.2.category == 2))) = Lf x) (k : ∀ x, zV bs own nL ret κ w n (pc + 2) (Lf x) S M (X x) E) : zV bs own nL ret κ w n pc L (jv e :: S) M (zlt e X) E :=
  zv_wl (L' := Lf e) (fun _ _ _ _ _ _ _ _ _ _ _ _ _ _ _ _ hx hb h k => lv_lstore hx hb d h hn (hl e) k) (k e)
theorem zv_astore_n {x : Nat} {i : Nat} {j : Fin 4} (hj : (j : Nat) = i) {L' : List (Nat × Value)} (d : decode bs pc = .ok (.astore_n j, 1)) (hn : i < nL) (hl : (i, Value.ref x) :: L.filter (fun q => !(q.1 == i) && !(q.1 + 1 == i && q.2.category == 2)) = L') (k : zV bs own nL ret κ w n (pc + 1) L' S M o E) : zV bs own nL ret κ w n pc L (Value.ref x :: S) M o E :=
  zv_wl (fun _ _ _ _ _ _ _ _ _ _ _ _ _ _ _ _ hx hb h k => lv_astore_n hx hb d hj h hn hl k) k
theorem zv_rstore_n {r : Nat} {X : Nat → Option τ} {i : Nat} {j : Fin 4} (hj : (j : Nat) = i) (Lf : Nat → List (Nat × Value)) (d : decode bs pc = .ok (.astore_n j, 1)) (hn : i < nL) (hl : ∀ x, (i, rn w x) :: L.filter (fun q => !(q.1 == i) && !(q.1 + 1 == i && q.2.category == 2)) = Lf x) (k : ∀ x, zV bs own nL ret κ w n (pc + 1) (Lf x) S M (X x) E) : zV bs own nL ret κ w n pc L (rn w r :: S) M (zlt r X) E :=
  zv_wl (L' := Lf r) (fun _ _ _ _ _ _ _ _ _ _ _ _ _ _ _ _ hx hb h k => lv_astore_n hx hb d hj h hn (hl r) k) (k r)
theorem zv_rstore {r : Nat} {X : Nat → Option τ} {i : Nat} (Lf : Nat → List (Nat × Value)) (d : decode bs pc = .ok (.astore i, 2)) (hn : i < nL) (hl : ∀ x, (i, rn w x) :: L.filter (fun q => !(q.1 == i) && !(q.1 + 1 == i && q.2.category == 2)) = Lf x) (k : ∀ x, zV bs own nL ret κ w n (pc + 2) (Lf x) S M (X x) E) : zV bs own nL ret κ w n pc L (rn w r :: S) M (zlt r X) E :=
  zv_wl (L' := Lf r) (fun _ _ _ _ _ _ _ _ _ _ _ _ _ _ _ _ hx hb h k => lv_astore hx hb d h hn (hl r) k) (k r)
theorem zv_iinc {e : Int} {X : Int → Option τ} {i : Nat} {z : Int} (d : decode bs pc = .ok (.iinc i z, 3)) (q : Nat) (hq : L[q]? = some (i, iv e)) (Lf : Int → List (Nat × Value)) (hn : i < nL) (hl : ∀ x, (i, iv x) :: L.filter (fun q => !(q.1 == i) && !(q.1 + 1 == i && q.2.category == 2)) = Lf x) (k : ∀ x, zV bs own nL ret κ w n (pc + 3) (Lf x) S M (X x) E) : zV bs own nL ret κ w n pc L S M (zlt (e + z) X) E :=
  zv_wl (L' := Lf (e + z)) (fun _ _ _ _ _ _ _ _ _ _ _ _ _ _ _ _ hx hb h k => lv_iinc (v := Int32.ofInt (e + z)) hx hb d h (k := q) hq (zi_add e z).symm hn (hl (e + z)) k) (k (e + z))
theorem zv_dup {v : Value} (d : decode bs pc = .ok (.dup, 1)) (h : v.category = 1) (k : zV bs own nL ret κ w n (pc + 1) L (v :: v :: S) M o E) : zV bs own nL ret κ w n pc L (v :: S) M o E :=
  zv_w (fun _ _ _ _ _ _ _ _ _ _ _ _ _ _ _ _ hx hb hts hown hl k => lv_dup hx hb d h k) k
theorem zv_dup2 {v u : Value} (d : decode bs pc = .ok (.dup2, 1)) (h : v.category = 1) (h2 : u.category = 1) (k : zV bs own nL ret κ w n (pc + 1) L (v :: u :: v :: u :: S) M o E) : zV bs own nL ret κ w n pc L (v :: u :: S) M o E :=
  zv_w (fun _ _ _ _ _ _ _ _ _ _ _ _ _ _ _ _ hx hb hts hown hl k => lv_dup2_11 hx hb d h h2 k) k
theorem zv_pop {v : Value} (d : decode bs pc = .ok (.pop, 1)) (h : v.category = 1) (k : zV bs own nL ret κ w n (pc + 1) L (S) M o E) : zV bs own nL ret κ w n pc L (v :: S) M o E :=
  zv_w (fun _ _ _ _ _ _ _ _ _ _ _ _ _ _ _ _ hx hb hts hown hl k => lv_pop hx hb d h k) k
theorem zv_iadd {a b : Int} (d : decode bs pc = .ok (.iadd, 1)) (k : zV bs own nL ret κ w n (pc + 1) L (iv (a + b) :: S) M o E) : zV bs own nL ret κ w n pc L (iv b :: iv a :: S) M o E :=
  zv_w (fun _ _ _ _ _ _ _ _ _ _ _ _ _ _ _ _ hx hb hts hown hl k => lv_iadd hx hb d (by unfold iv at k; rw [zi_add] at k; exact k)) k
theorem zv_isub {a b : Int} (d : decode bs pc = .ok (.isub, 1)) (k : zV bs own nL ret κ w n (pc + 1) L (iv (a - b) :: S) M o E) : zV bs own nL ret κ w n pc L (iv b :: iv a :: S) M o E :=
  zv_w (fun _ _ _ _ _ _ _ _ _ _ _ _ _ _ _ _ hx hb hts hown hl k => lv_isub hx hb d (by unfold iv at k; rw [zi_sub] at k; exact k)) k
theorem zv_imul {a b : Int} (d : decode bs pc = .ok (.imul, 1)) (k : zV bs own nL ret κ w n (pc + 1) L (iv (a * b) :: S) M o E) : zV bs own nL ret κ w n pc L (iv b :: iv a :: S) M o E :=
  zv_w (fun _ _ _ _ _ _ _ _ _ _ _ _ _ _ _ _ hx hb hts hown hl k => lv_imul hx hb d (by unfold iv at k; rw [zi_mul] at k; exact k)) k
theorem zv_ladd {a b : Int} (d : decode bs pc = .ok (.ladd, 1)) (k : zV bs own nL ret κ w n (pc + 1) L (jv (a + b) :: S) M o E) : zV bs own nL ret κ w n pc L (jv b :: jv a :: S) M o E :=
  zv_w (fun _ _ _ _ _ _ _ _ _ _ _ _ _ _ _ _ hx hb hts hown hl k => lv_ladd hx hb d (by unfold jv at k; rw [zj_add] at k; exact k)) k
theorem zv_lsub {a b : Int} (d : decode bs pc = .ok (.lsub, 1)) (k : zV bs own nL ret κ w n (pc + 1) L (jv (a - b) :: S) M o E) : zV bs own nL ret κ w n pc L (jv b :: jv a :: S) M o E :=
  zv_w (fun _ _ _ _ _ _ _ _ _ _ _ _ _ _ _ _ hx hb hts hown hl k => lv_lsub hx hb d (by unfold jv at k; rw [zj_sub] at k; exact k)) k
theorem zv_lmul {a b : Int} (d : decode bs pc = .ok (.lmul, 1)) (k : zV bs own nL ret κ w n (pc + 1) L (jv (a * b) :: S) M o E) : zV bs own nL ret κ w n pc L (jv b :: jv a :: S) M o E :=
  zv_w (fun _ _ _ _ _ _ _ _ _ _ _ _ _ _ _ _ hx hb hts hown hl k => lv_lmul hx hb d (by unfold jv at k; rw [zj_mul] at k; exact k)) k
theorem zv_lneg {a : Int} (d : decode bs pc = .ok (.lneg, 1)) (k : zV bs own nL ret κ w n (pc + 1) L (jv (-a) :: S) M o E) : zV bs own nL ret κ w n pc L (jv a :: S) M o E :=
  zv_w (fun _ _ _ _ _ _ _ _ _ _ _ _ _ _ _ _ hx hb hts hown hl k => lv_lneg hx hb d (by unfold jv at k; rw [zj_neg] at k; exact k)) k
theorem zv_iand {a b : Int} (d : decode bs pc = .ok (.iand, 1)) (k : zV bs own nL ret κ w n (pc + 1) L (iv (zo_and a b) :: S) M o E) : zV bs own nL ret κ w n pc L (iv b :: iv a :: S) M o E :=
  zv_w (fun _ _ _ _ _ _ _ _ _ _ _ _ _ _ _ _ hx hb hts hown hl k => lv_iand hx hb d (by unfold iv zo_and at k; rw [zi_back] at k; exact k)) k
theorem zv_ior {a b : Int} (d : decode bs pc = .ok (.ior, 1)) (k : zV bs own nL ret κ w n (pc + 1) L (iv (zo_or a b) :: S) M o E) : zV bs own nL ret κ w n pc L (iv b :: iv a :: S) M o E :=
  zv_w (fun _ _ _ _ _ _ _ _ _ _ _ _ _ _ _ _ hx hb hts hown hl k => lv_ior hx hb d (by unfold iv zo_or at k; rw [zi_back] at k; exact k)) k
theorem zv_ishl {a b : Int} (d : decode bs pc = .ok (.ishl, 1)) (k : zV bs own nL ret κ w n (pc + 1) L (iv (zo_shl a b) :: S) M o E) : zV bs own nL ret κ w n pc L (iv b :: iv a :: S) M o E :=
  zv_w (fun _ _ _ _ _ _ _ _ _ _ _ _ _ _ _ _ hx hb hts hown hl k => lv_ishl hx hb d (by unfold iv zo_shl at k; rw [zi_back] at k; exact k)) k
theorem zv_ishr {a b : Int} (d : decode bs pc = .ok (.ishr, 1)) (k : zV bs own nL ret κ w n (pc + 1) L (iv (zo_shr a b) :: S) M o E) : zV bs own nL ret κ w n pc L (iv b :: iv a :: S) M o E :=
  zv_w (fun _ _ _ _ _ _ _ _ _ _ _ _ _ _ _ _ hx hb hts hown hl k => lv_ishr hx hb d (by unfold iv zo_shr at k; rw [zi_back] at k; exact k)) k
theorem zv_iushr {a b : Int} (d : decode bs pc = .ok (.iushr, 1)) (k : zV bs own nL ret κ w n (pc + 1) L (iv (zo_ushr a b) :: S) M o E) : zV bs own nL ret κ w n pc L (iv b :: iv a :: S) M o E :=
  zv_w (fun _ _ _ _ _ _ _ _ _ _ _ _ _ _ _ _ hx hb hts hown hl k => lv_iushr hx hb d (by unfold zo_ushr; rw [zi_back]) k) k
theorem zv_land {a b : Int} (d : decode bs pc = .ok (.land, 1)) (k : zV bs own nL ret κ w n (pc + 1) L (jv (zo_land a b) :: S) M o E) : zV bs own nL ret κ w n pc L (jv b :: jv a :: S) M o E :=
  zv_w (fun _ _ _ _ _ _ _ _ _ _ _ _ _ _ _ _ hx hb hts hown hl k => lv_land hx hb d (by unfold jv zo_land at k; rw [zj_back] at k; exact k)) k
theorem zv_lor {a b : Int} (d : decode bs pc = .ok (.lor, 1)) (k : zV bs own nL ret κ w n (pc + 1) L (jv (zo_lor a b) :: S) M o E) : zV bs own nL ret κ w n pc L (jv b :: jv a :: S) M o E :=
  zv_w (fun _ _ _ _ _ _ _ _ _ _ _ _ _ _ _ _ hx hb hts hown hl k => lv_lor hx hb d (by unfold jv zo_lor at k; rw [zj_back] at k; exact k)) k
theorem zv_lxor {a b : Int} (d : decode bs pc = .ok (.lxor, 1)) (k : zV bs own nL ret κ w n (pc + 1) L (jv (zo_lxor a b) :: S) M o E) : zV bs own nL ret κ w n pc L (jv b :: jv a :: S) M o E :=
  zv_w (fun _ _ _ _ _ _ _ _ _ _ _ _ _ _ _ _ hx hb hts hown hl k => lv_lxor hx hb d (by unfold jv zo_lxor at k; rw [zj_back] at k; exact k)) k
theorem zv_lshl {a b : Int} (d : decode bs pc = .ok (.lshl, 1)) (k : zV bs own nL ret κ w n (pc + 1) L (jv (zo_lshl a b) :: S) M o E) : zV bs own nL ret κ w n pc L (iv b :: jv a :: S) M o E :=
  zv_w (fun _ _ _ _ _ _ _ _ _ _ _ _ _ _ _ _ hx hb hts hown hl k => lv_lshl hx hb d (by unfold zo_lshl; rw [zj_back]) k) k
theorem zv_lushr {a b : Int} (d : decode bs pc = .ok (.lushr, 1)) (k : zV bs own nL ret κ w n (pc + 1) L (jv (zo_lushr a b) :: S) M o E) : zV bs own nL ret κ w n pc L (iv b :: jv a :: S) M o E :=
  zv_w (fun _ _ _ _ _ _ _ _ _ _ _ _ _ _ _ _ hx hb hts hown hl k => lv_lushr hx hb d (by unfold zo_lushr; rw [zj_back]) k) k
theorem zv_l2i {a : Int} (d : decode bs pc = .ok (.l2i, 1)) (k : zV bs own nL ret κ w n (pc + 1) L (iv a :: S) M o E) : zV bs own nL ret κ w n pc L (jv a :: S) M o E :=
  zv_w (fun _ _ _ _ _ _ _ _ _ _ _ _ _ _ _ _ hx hb hts hown hl k => lv_l2i hx hb d (zi_l2i a) k) k
theorem zv_i2b {a : Int} (d : decode bs pc = .ok (.i2b, 1)) (k : zV bs own nL ret κ w n (pc + 1) L (iv (zo_i2b a) :: S) M o E) : zV bs own nL ret κ w n pc L (iv a :: S) M o E :=
  zv_w (fun _ _ _ _ _ _ _ _ _ _ _ _ _ _ _ _ hx hb hts hown hl k => lv_i2b hx hb d (by unfold zo_i2b; rw [zi_back]) k) k
theorem zv_i2l {a : Int} (d : decode bs pc = .ok (.i2l, 1)) (k : zV bs own nL ret κ w n (pc + 1) L (jv a :: S) M o E) : zV bs own nL ret κ w n pc L (iv a :: S) M (zgd (zr a) o) E := zv_gd fun hg =>
  zv_w (fun _ _ _ _ _ _ _ _ _ _ _ _ _ _ _ _ hx hb hts hown hl k => lv_i2l hx hb d (zj_i2l hg) k) k
theorem zv_idiv {a b : Int} (d : decode bs pc = .ok (.idiv, 1)) (k : zV bs own nL ret κ w n (pc + 1) L (iv (a / b) :: S) M o E) : zV bs own nL ret κ w n pc L (iv b :: iv a :: S) M (zgd ((0 ≤ a ∧ a ≤ 2147483647) ∧ 0 < b ∧ b ≤ 2147483647) o) E := zv_gd fun hg =>
  zv_w (fun _ _ _ _ _ _ _ _ _ _ _ _ _ _ _ _ hx hb hts hown hl k => lv_idiv hx hb d (zi_ne0 hg.2) (by unfold iv at k; rw [zi_div hg.1 hg.2] at k; exact k)) k
theorem zv_irem {a b : Int} (d : decode bs pc = .ok (.irem, 1)) (k : zV bs own nL ret κ w n (pc + 1) L (iv (a % b) :: S) M o E) : zV bs own nL ret κ w n pc L (iv b :: iv a :: S) M (zgd ((0 ≤ a ∧ a ≤ 2147483647) ∧ 0 < b ∧ b ≤ 2147483647) o) E := zv_gd fun hg =>
  zv_w (fun _ _ _ _ _ _ _ _ _ _ _ _ _ _ _ _ hx hb hts hown hl k => lv_irem hx hb d (zi_ne0 hg.2) (by unfold iv at k; rw [zi_rem hg.1 hg.2] at k; exact k)) k
theorem zv_ldiv {a b : Int} (d : decode bs pc = .ok (.ldiv, 1)) (k : zV bs own nL ret κ w n (pc + 1) L (jv (a / b) :: S) M o E) : zV bs own nL ret κ w n pc L (jv b :: jv a :: S) M (zgd ((0 ≤ a ∧ a ≤ 9223372036854775807) ∧ 0 < b ∧ b ≤ 9223372036854775807) o) E := zv_gd fun hg =>
  zv_w (fun _ _ _ _ _ _ _ _ _ _ _ _ _ _ _ _ hx hb hts hown hl k => lv_ldiv hx hb d (zj_ne0 hg.2) (by unfold jv at k; rw [zj_div hg.1 hg.2] at k; exact k)) k
theorem zv_lrem {a b : Int} (d : decode bs pc = .ok (.lrem, 1)) (k : zV bs own nL ret κ w n (pc + 1) L (jv (a % b) :: S) M o E) : zV bs own nL ret κ w n pc L (jv b :: jv a :: S) M (zgd ((0 ≤ a ∧ a ≤ 9223372036854775807) ∧ 0 < b ∧ b ≤ 9223372036854775807) o) E := zv_gd fun hg =>
  zv_w (fun _ _ _ _ _ _ _ _ _ _ _ _ _ _ _ _ hx hb hts hown hl k => lv_lrem hx hb d (zj_ne0 hg.2) (by unfold jv at k; rw [zj_rem hg.1 hg.2] at k; exact k)) k
theorem zv_br {a b : Int} {c : Prop} [Decidable c] {X Y : Option τ} {tgt : Nat} {S' : List Value}
    (h : zr a → zr b → ∀ (p : Program) (l : Launch) (e : Env) (R : Room) (s : State) (m : MethodId) (args : Array Value) (below : List Frame) (meth : Method) (cd : Code) (H : Heap) (locs : List Loc) (cells slots : Nat) (Q : State → Prop) (ls : Array Slot), p.tables.exec = Jvm.exec → cd.code = bs → (c → W p l e R s m args below meth cd H locs cells slots Q (F0 m tgt ls S')) → (¬ c → W p l e R s m args below meth cd H locs cells slots Q (F0 m (pc + 3) ls S')) → W p l e R s m args below meth cd H locs cells slots Q (F0 m pc ls S))
    (kt : zV bs own nL ret κ w n tgt L S' M X E) (kf : zV bs own nL ret κ w n (pc + 3) L S' M Y E) : zV bs own nL ret κ w n pc L S M (zbr a b c X Y) E := by
  intro t ho hE
  unfold zbr at ho
  split at ho
  · rename_i hg
    have kt := kt t
    have kf := kf t
    obtain ⟨p, l, e, R, s, m, args, below, meth, cd, A, Qc, mc, ms⟩ := κ
    intro C H locs ls hH hS hl
    refine h hg.1 hg.2 _ _ _ _ _ _ _ _ _ _ _ _ _ _ _ _ C.1 C.2.1 (fun hc => ?_) (fun hc => ?_)
    · rw [if_pos hc] at ho
      exact kt ho hE C H locs ls hH hS hl
    · rw [if_neg hc] at ho
      exact kf ho hE C H locs ls hH hS hl
  · cases ho
theorem zv_bl {a b : Int} {c : Prop} [Decidable c] {X Y : Option τ} {tgt : Nat} {S' : List Value}
    (h : zrl a → zrl b → ∀ (p : Program) (l : Launch) (e : Env) (R : Room) (s : State) (m : MethodId) (args : Array Value) (below : List Frame) (meth : Method) (cd : Code) (H : Heap) (locs : List Loc) (cells slots : Nat) (Q : State → Prop) (ls : Array Slot), p.tables.exec = Jvm.exec → cd.code = bs → (c → W p l e R s m args below meth cd H locs cells slots Q (F0 m tgt ls S')) → (¬ c → W p l e R s m args below meth cd H locs cells slots Q (F0 m (pc + 4) ls S')) → W p l e R s m args below meth cd H locs cells slots Q (F0 m pc ls S))
    (kt : zV bs own nL ret κ w n tgt L S' M X E) (kf : zV bs own nL ret κ w n (pc + 4) L S' M Y E) : zV bs own nL ret κ w n pc L S M (zbl a b c X Y) E := by
  intro t ho hE
  unfold zbl at ho
  split at ho
  · rename_i hg
    have kt := kt t
    have kf := kf t
    obtain ⟨p, l, e, R, s, m, args, below, meth, cd, A, Qc, mc, ms⟩ := κ
    intro C H locs ls hH hS hl
    refine h hg.1 hg.2 _ _ _ _ _ _ _ _ _ _ _ _ _ _ _ _ C.1 C.2.1 (fun hc => ?_) (fun hc => ?_)
    · rw [if_pos hc] at ho
      exact kt ho hE C H locs ls hH hS hl
    · rw [if_neg hc] at ho
      exact kf ho hE C H locs ls hH hS hl
  · cases ho
theorem zv_icmp_lt {a b : Int} {X Y : Option τ} {off : Int} {tgt : Nat} (d : decode bs pc = .ok (.if_icmp .lt off, 3)) (ht : (pc : Int) + off = (tgt : Int)) (kt : zV bs own nL ret κ w n tgt L S M X E) (kf : zV bs own nL ret κ w n (pc + 3) L S M Y E) : zV bs own nL ret κ w n pc L (iv b :: iv a :: S) M (zbr a b (a < b) X Y) E :=
  zv_br (fun h1 h2 _ _ _ _ _ _ _ _ _ _ _ _ _ _ _ _ hx hb kt kf => lv_icmp_lt hx hb d ht (fun q => kt ((zi_lt h1 h2).mp q)) (fun q => kf (fun r => q ((zi_lt h1 h2).mpr r)))) kt kf
theorem zv_if_lt {a : Int} {X Y : Option τ} {off : Int} {tgt : Nat} (d : decode bs pc = .ok (.ifCond .lt off, 3)) (ht : (pc : Int) + off = (tgt : Int)) (kt : zV bs own nL ret κ w n tgt L S M X E) (kf : zV bs own nL ret κ w n (pc + 3) L S M Y E) : zV bs own nL ret κ w n pc L (iv a :: S) M (zbr a 0 (a < 0) X Y) E :=
  zv_br (fun h1 h2 _ _ _ _ _ _ _ _ _ _ _ _ _ _ _ _ hx hb kt kf => lv_if_lt hx hb d ht (fun q => kt ((zi_lt h1 h2).mp q)) (fun q => kf (fun r => q ((zi_lt h1 h2).mpr r)))) kt kf
theorem zv_icmp_ge {a b : Int} {X Y : Option τ} {off : Int} {tgt : Nat} (d : decode bs pc = .ok (.if_icmp .ge off, 3)) (ht : (pc : Int) + off = (tgt : Int)) (kt : zV bs own nL ret κ w n tgt L S M X E) (kf : zV bs own nL ret κ w n (pc + 3) L S M Y E) : zV bs own nL ret κ w n pc L (iv b :: iv a :: S) M (zbr a b (b ≤ a) X Y) E :=
  zv_br (fun h1 h2 _ _ _ _ _ _ _ _ _ _ _ _ _ _ _ _ hx hb kt kf => lv_icmp_ge hx hb d ht (fun q => kt ((zi_le h2 h1).mp q)) (fun q => kf (fun r => q ((zi_le h2 h1).mpr r)))) kt kf
theorem zv_if_ge {a : Int} {X Y : Option τ} {off : Int} {tgt : Nat} (d : decode bs pc = .ok (.ifCond .ge off, 3)) (ht : (pc : Int) + off = (tgt : Int)) (kt : zV bs own nL ret κ w n tgt L S M X E) (kf : zV bs own nL ret κ w n (pc + 3) L S M Y E) : zV bs own nL ret κ w n pc L (iv a :: S) M (zbr a 0 (0 ≤ a) X Y) E :=
  zv_br (fun h1 h2 _ _ _ _ _ _ _ _ _ _ _ _ _ _ _ _ hx hb kt kf => lv_if_ge hx hb d ht (fun q => kt ((zi_le h2 h1).mp q)) (fun q => kf (fun r => q ((zi_le h2 h1).mpr r)))) kt kf
theorem zv_icmp_gt {a b : Int} {X Y : Option τ} {off : Int} {tgt : Nat} (d : decode bs pc = .ok (.if_icmp .gt off, 3)) (ht : (pc : Int) + off = (tgt : Int)) (kt : zV bs own nL ret κ w n tgt L S M X E) (kf : zV bs own nL ret κ w n (pc + 3) L S M Y E) : zV bs own nL ret κ w n pc L (iv b :: iv a :: S) M (zbr a b (b < a) X Y) E :=
  zv_br (fun h1 h2 _ _ _ _ _ _ _ _ _ _ _ _ _ _ _ _ hx hb kt kf => lv_icmp_gt hx hb d ht (fun q => kt ((zi_lt h2 h1).mp q)) (fun q => kf (fun r => q ((zi_lt h2 h1).mpr r)))) kt kf
theorem zv_if_gt {a : Int} {X Y : Option τ} {off : Int} {tgt : Nat} (d : decode bs pc = .ok (.ifCond .gt off, 3)) (ht : (pc : Int) + off = (tgt : Int)) (kt : zV bs own nL ret κ w n tgt L S M X E) (kf : zV bs own nL ret κ w n (pc + 3) L S M Y E) : zV bs own nL ret κ w n pc L (iv a :: S) M (zbr a 0 (0 < a) X Y) E :=
  zv_br (fun h1 h2 _ _ _ _ _ _ _ _ _ _ _ _ _ _ _ _ hx hb kt kf => lv_if_gt hx hb d ht (fun q => kt ((zi_lt h2 h1).mp q)) (fun q => kf (fun r => q ((zi_lt h2 h1).mpr r)))) kt kf
theorem zv_icmp_le {a b : Int} {X Y : Option τ} {off : Int} {tgt : Nat} (d : decode bs pc = .ok (.if_icmp .le off, 3)) (ht : (pc : Int) + off = (tgt : Int)) (kt : zV bs own nL ret κ w n tgt L S M X E) (kf : zV bs own nL ret κ w n (pc + 3) L S M Y E) : zV bs own nL ret κ w n pc L (iv b :: iv a :: S) M (zbr a b (a ≤ b) X Y) E :=
  zv_br (fun h1 h2 _ _ _ _ _ _ _ _ _ _ _ _ _ _ _ _ hx hb kt kf => lv_icmp_le hx hb d ht (fun q => kt ((zi_le h1 h2).mp q)) (fun q => kf (fun r => q ((zi_le h1 h2).mpr r)))) kt kf
theorem zv_if_le {a : Int} {X Y : Option τ} {off : Int} {tgt : Nat} (d : decode bs pc = .ok (.ifCond .le off, 3)) (ht : (pc : Int) + off = (tgt : Int)) (kt : zV bs own nL ret κ w n tgt L S M X E) (kf : zV bs own nL ret κ w n (pc + 3) L S M Y E) : zV bs own nL ret κ w n pc L (iv a :: S) M (zbr a 0 (a ≤ 0) X Y) E :=
  zv_br (fun h1 h2 _ _ _ _ _ _ _ _ _ _ _ _ _ _ _ _ hx hb kt kf => lv_if_le hx hb d ht (fun q => kt ((zi_le h1 h2).mp q)) (fun q => kf (fun r => q ((zi_le h1 h2).mpr r)))) kt kf
theorem zv_icmp_eq {a b : Int} {X Y : Option τ} {off : Int} {tgt : Nat} (d : decode bs pc = .ok (.if_icmp .eq off, 3)) (ht : (pc : Int) + off = (tgt : Int)) (kt : zV bs own nL ret κ w n tgt L S M X E) (kf : zV bs own nL ret κ w n (pc + 3) L S M Y E) : zV bs own nL ret κ w n pc L (iv b :: iv a :: S) M (zbr a b (a = b) X Y) E :=
  zv_br (fun h1 h2 _ _ _ _ _ _ _ _ _ _ _ _ _ _ _ _ hx hb kt kf => lv_icmp_eq hx hb d ht (fun q => kt ((zi_eq h1 h2).mp q)) (fun q => kf (fun r => q ((zi_eq h1 h2).mpr r)))) kt kf
theorem zv_if_eq {a : Int} {X Y : Option τ} {off : Int} {tgt : Nat} (d : decode bs pc = .ok (.ifCond .eq off, 3)) (ht : (pc : Int) + off = (tgt : Int)) (kt : zV bs own nL ret κ w n tgt L S M X E) (kf : zV bs own nL ret κ w n (pc + 3) L S M Y E) : zV bs own nL ret κ w n pc L (iv a :: S) M (zbr a 0 (a = 0) X Y) E :=
  zv_br (fun h1 h2 _ _ _ _ _ _ _ _ _ _ _ _ _ _ _ _ hx hb kt kf => lv_if_eq hx hb d ht (fun q => kt ((zi_eq h1 h2).mp q)) (fun q => kf (fun r => q ((zi_eq h1 h2).mpr r)))) kt kf
theorem zv_icmp_ne {a b : Int} {X Y : Option τ} {off : Int} {tgt : Nat} (d : decode bs pc = .ok (.if_icmp .ne off, 3)) (ht : (pc : Int) + off = (tgt : Int)) (kt : zV bs own nL ret κ w n tgt L S M X E) (kf : zV bs own nL ret κ w n (pc + 3) L S M Y E) : zV bs own nL ret κ w n pc L (iv b :: iv a :: S) M (zbr a b (¬ a = b) X Y) E :=
  zv_br (fun h1 h2 _ _ _ _ _ _ _ _ _ _ _ _ _ _ _ _ hx hb kt kf => lv_icmp_ne hx hb d ht (fun q => kt ((not_congr (zi_eq h1 h2)).mp q)) (fun q => kf (fun r => r ((zi_eq h1 h2).mp q)))) kt kf
theorem zv_if_ne {a : Int} {X Y : Option τ} {off : Int} {tgt : Nat} (d : decode bs pc = .ok (.ifCond .ne off, 3)) (ht : (pc : Int) + off = (tgt : Int)) (kt : zV bs own nL ret κ w n tgt L S M X E) (kf : zV bs own nL ret κ w n (pc + 3) L S M Y E) : zV bs own nL ret κ w n pc L (iv a :: S) M (zbr a 0 (¬ a = 0) X Y) E :=
  zv_br (fun h1 h2 _ _ _ _ _ _ _ _ _ _ _ _ _ _ _ _ hx hb kt kf => lv_if_ne hx hb d ht (fun q => kt ((not_congr (zi_eq h1 h2)).mp q)) (fun q => kf (fun r => r ((zi_eq h1 h2).mp q)))) kt kf
theorem zlg_lt {a b : Int} (h1 : zrl a) (h2 : zrl b) : lg_cmp (Int64.ofInt a) (Int64.ofInt b) < 0 ↔ a < b := by
  have q1 := zj_lt h2 h1
  have q2 := zj_eq h1 h2
  unfold lg_cmp
  by_cases c1 : Int64.ofInt a > Int64.ofInt b
  · rw [if_pos c1]
    have := q1.mp c1
    constructor
    · intro h; first | omega | exact absurd h (by decide)
    · intro h; first | decide | omega
  · rw [if_neg c1]
    have e1 : ¬ b < a := fun h => c1 (q1.mpr h)
    by_cases c2 : Int64.ofInt a = Int64.ofInt b
    · rw [if_pos c2]
      have := q2.mp c2
      constructor
      · intro h; first | omega | exact absurd h (by decide)
      · intro h; first | decide | omega
    · rw [if_neg c2]
      have e2 : ¬ a = b := fun h => c2 (q2.mpr h)
      constructor
      · intro h; first | omega | exact absurd h (by decide)
      · intro h; first | decide | omega
theorem zlg_ge {a b : Int} (h1 : zrl a) (h2 : zrl b) : 0 ≤ lg_cmp (Int64.ofInt a) (Int64.ofInt b) ↔ b ≤ a := by
  have q1 := zj_lt h2 h1
  have q2 := zj_eq h1 h2
  unfold lg_cmp
  by_cases c1 : Int64.ofInt a > Int64.ofInt b
  · rw [if_pos c1]
    have := q1.mp c1
    constructor
    · intro h; first | omega | exact absurd h (by decide)
    · intro h; first | decide | omega
  · rw [if_neg c1]
    have e1 : ¬ b < a := fun h => c1 (q1.mpr h)
    by_cases c2 : Int64.ofInt a = Int64.ofInt b
    · rw [if_pos c2]
      have := q2.mp c2
      constructor
      · intro h; first | omega | exact absurd h (by decide)
      · intro h; first | decide | omega
    · rw [if_neg c2]
      have e2 : ¬ a = b := fun h => c2 (q2.mpr h)
      constructor
      · intro h; first | omega | exact absurd h (by decide)
      · intro h; first | decide | omega
theorem zlg_gt {a b : Int} (h1 : zrl a) (h2 : zrl b) : 0 < lg_cmp (Int64.ofInt a) (Int64.ofInt b) ↔ b < a := by
  have q1 := zj_lt h2 h1
  have q2 := zj_eq h1 h2
  unfold lg_cmp
  by_cases c1 : Int64.ofInt a > Int64.ofInt b
  · rw [if_pos c1]
    have := q1.mp c1
    constructor
    · intro h; first | omega | exact absurd h (by decide)
    · intro h; first | decide | omega
  · rw [if_neg c1]
    have e1 : ¬ b < a := fun h => c1 (q1.mpr h)
    by_cases c2 : Int64.ofInt a = Int64.ofInt b
    · rw [if_pos c2]
      have := q2.mp c2
      constructor
      · intro h; first | omega | exact absurd h (by decide)
      · intro h; first | decide | omega
    · rw [if_neg c2]
      have e2 : ¬ a = b := fun h => c2 (q2.mpr h)
      constructor
      · intro h; first | omega | exact absurd h (by decide)
      · intro h; first | decide | omega
theorem zlg_le {a b : Int} (h1 : zrl a) (h2 : zrl b) : lg_cmp (Int64.ofInt a) (Int64.ofInt b) ≤ 0 ↔ a ≤ b := by
  have q1 := zj_lt h2 h1
  have q2 := zj_eq h1 h2
  unfold lg_cmp
  by_cases c1 : Int64.ofInt a > Int64.ofInt b
  · rw [if_pos c1]
    have := q1.mp c1
    constructor
    · intro h; first | omega | exact absurd h (by decide)
    · intro h; first | decide | omega
  · rw [if_neg c1]
    have e1 : ¬ b < a := fun h => c1 (q1.mpr h)
    by_cases c2 : Int64.ofInt a = Int64.ofInt b
    · rw [if_pos c2]
      have := q2.mp c2
      constructor
      · intro h; first | omega | exact absurd h (by decide)
      · intro h; first | decide | omega
    · rw [if_neg c2]
      have e2 : ¬ a = b := fun h => c2 (q2.mpr h)
      constructor
      · intro h; first | omega | exact absurd h (by decide)
      · intro h; first | decide | omega
theorem zlg_eq {a b : Int} (h1 : zrl a) (h2 : zrl b) : lg_cmp (Int64.ofInt a) (Int64.ofInt b) = 0 ↔ a = b := by
  have q1 := zj_lt h2 h1
  have q2 := zj_eq h1 h2
  unfold lg_cmp
  by_cases c1 : Int64.ofInt a > Int64.ofInt b
  · rw [if_pos c1]
    have := q1.mp c1
    constructor
    · intro h; first | omega | exact absurd h (by decide)
    · intro h; first | decide | omega
  · rw [if_neg c1]
    have e1 : ¬ b < a := fun h => c1 (q1.mpr h)
    by_cases c2 : Int64.ofInt a = Int64.ofInt b
    · rw [if_pos c2]
      have := q2.mp c2
      constructor
      · intro h; first | omega | exact absurd h (by decide)
      · intro h; first | decide | omega
    · rw [if_neg c2]
      have e2 : ¬ a = b := fun h => c2 (q2.mpr h)
      constructor
      · intro h; first | omega | exact absurd h (by decide)
      · intro h; first | decide | omega
theorem zv_lcmp_lt {a b : Int} {X Y : Option τ} {off : Int} {tgt : Nat} (d0 : decode bs pc = .ok (.lcmp, 1)) (d : decode bs (pc + 1) = .ok (.ifCond .lt off, 3)) (ht : ((pc + 1 : Nat) : Int) + off = (tgt : Int)) (kt : zV bs own nL ret κ w n tgt L S M X E) (kf : zV bs own nL ret κ w n (pc + 4) L S M Y E) : zV bs own nL ret κ w n pc L (jv b :: jv a :: S) M (zbl a b (a < b) X Y) E :=
  zv_bl (fun h1 h2 _ _ _ _ _ _ _ _ _ _ _ _ _ _ _ _ hx hb kt kf => W.lcmp hx hb d0 (lv_if_lt hx hb d ht (fun q => kt ((zlg_lt h1 h2).mp q)) (fun q => kf (fun r => q ((zlg_lt h1 h2).mpr r))))) kt kf
theorem zv_lcmp_ge {a b : Int} {X Y : Option τ} {off : Int} {tgt : Nat} (d0 : decode bs pc = .ok (.lcmp, 1)) (d : decode bs (pc + 1) = .ok (.ifCond .ge off, 3)) (ht : ((pc + 1 : Nat) : Int) + off = (tgt : Int)) (kt : zV bs own nL ret κ w n tgt L S M X E) (kf : zV bs own nL ret κ w n (pc + 4) L S M Y E) : zV bs own nL ret κ w n pc L (jv b :: jv a :: S) M (zbl a b (b ≤ a) X Y) E :=
  zv_bl (fun h1 h2 _ _ _ _ _ _ _ _ _ _ _ _ _ _ _ _ hx hb kt kf => W.lcmp hx hb d0 (lv_if_ge hx hb d ht (fun q => kt ((zlg_ge h1 h2).mp q)) (fun q => kf (fun r => q ((zlg_ge h1 h2).mpr r))))) kt kf
theorem zv_lcmp_gt {a b : Int} {X Y : Option τ} {off : Int} {tgt : Nat} (d0 : decode bs pc = .ok (.lcmp, 1)) (d : decode bs (pc + 1) = .ok (.ifCond .gt off, 3)) (ht : ((pc + 1 : Nat) : Int) + off = (tgt : Int)) (kt : zV bs own nL ret κ w n tgt L S M X E) (kf : zV bs own nL ret κ w n (pc + 4) L S M Y E) : zV bs own nL ret κ w n pc L (jv b :: jv a :: S) M (zbl a b (b < a) X Y) E :=
  zv_bl (fun h1 h2 _ _ _ _ _ _ _ _ _ _ _ _ _ _ _ _ hx hb kt kf => W.lcmp hx hb d0 (lv_if_gt hx hb d ht (fun q => kt ((zlg_gt h1 h2).mp q)) (fun q => kf (fun r => q ((zlg_gt h1 h2).mpr r))))) kt kf
theorem zv_lcmp_le {a b : Int} {X Y : Option τ} {off : Int} {tgt : Nat} (d0 : decode bs pc = .ok (.lcmp, 1)) (d : decode bs (pc + 1) = .ok (.ifCond .le off, 3)) (ht : ((pc + 1 : Nat) : Int) + off = (tgt : Int)) (kt : zV bs own nL ret κ w n tgt L S M X E) (kf : zV bs own nL ret κ w n (pc + 4) L S M Y E) : zV bs own nL ret κ w n pc L (jv b :: jv a :: S) M (zbl a b (a ≤ b) X Y) E :=
  zv_bl (fun h1 h2 _ _ _ _ _ _ _ _ _ _ _ _ _ _ _ _ hx hb kt kf => W.lcmp hx hb d0 (lv_if_le hx hb d ht (fun q => kt ((zlg_le h1 h2).mp q)) (fun q => kf (fun r => q ((zlg_le h1 h2).mpr r))))) kt kf
theorem zv_lcmp_eq {a b : Int} {X Y : Option τ} {off : Int} {tgt : Nat} (d0 : decode bs pc = .ok (.lcmp, 1)) (d : decode bs (pc + 1) = .ok (.ifCond .eq off, 3)) (ht : ((pc + 1 : Nat) : Int) + off = (tgt : Int)) (kt : zV bs own nL ret κ w n tgt L S M X E) (kf : zV bs own nL ret κ w n (pc + 4) L S M Y E) : zV bs own nL ret κ w n pc L (jv b :: jv a :: S) M (zbl a b (a = b) X Y) E :=
  zv_bl (fun h1 h2 _ _ _ _ _ _ _ _ _ _ _ _ _ _ _ _ hx hb kt kf => W.lcmp hx hb d0 (lv_if_eq hx hb d ht (fun q => kt ((zlg_eq h1 h2).mp q)) (fun q => kf (fun r => q ((zlg_eq h1 h2).mpr r))))) kt kf
theorem zv_lcmp_ne {a b : Int} {X Y : Option τ} {off : Int} {tgt : Nat} (d0 : decode bs pc = .ok (.lcmp, 1)) (d : decode bs (pc + 1) = .ok (.ifCond .ne off, 3)) (ht : ((pc + 1 : Nat) : Int) + off = (tgt : Int)) (kt : zV bs own nL ret κ w n tgt L S M X E) (kf : zV bs own nL ret κ w n (pc + 4) L S M Y E) : zV bs own nL ret κ w n pc L (jv b :: jv a :: S) M (zbl a b (¬ a = b) X Y) E :=
  zv_bl (fun h1 h2 _ _ _ _ _ _ _ _ _ _ _ _ _ _ _ _ hx hb kt kf => W.lcmp hx hb d0 (lv_if_ne hx hb d ht (fun q => kt ((not_congr (zlg_eq h1 h2)).mp q)) (fun q => kf (fun r => r ((zlg_eq h1 h2).mp q))))) kt kf
theorem zv_goto {off : Int} {tgt : Nat} (d : decode bs pc = .ok (.goto off, 3)) (ht : (pc : Int) + off = (tgt : Int)) (k : zV bs own nL ret κ w n tgt L S M o E) : zV bs own nL ret κ w n pc L S M o E :=
  zv_w (fun _ _ _ _ _ _ _ _ _ _ _ _ _ _ _ _ hx hb hts hown hl k => lv_goto hx hb d ht k) k
end zP

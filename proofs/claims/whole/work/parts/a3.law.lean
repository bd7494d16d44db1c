/-! the law's cases, call by call -/
def zSc (κ : zC) (b Ln : Nat) (xs : Nat → Int32) : Prop := match κ with
  | (_, _, _, _, s, _, _, _, _, _, A, _, _, _) => va_X b Ln xs s s.heap ∧ b < s.heap.size ∧ ¬ A b ∧ Ln < 2147483648
theorem zv_sld {τ : Type} {bs : ByteArray} {own : String} {nL : Nat} {ret : Option FieldType} {κ : zC} {w : zW} {n : Nat × Nat × Nat} {pc : Nat} {L : List (Nat × Value)} {S : List Value} {M : zM} {o : Option τ} {E : τ → Prop} {b Ln : Nat} {xs : Nat → Int32} {i a : Int} (hX : zSc κ b Ln xs) (hi : 0 ≤ i ∧ i < (Ln : Int)) (ha : (xs i.toNat).toInt = a) (d : decode bs pc = .ok (.iaload, 1)) (k : zV bs own nL ret κ w n (pc + 1) L (iv a :: S) M o E) : zV bs own nL ret κ w n pc L (iv i :: Value.ref b :: S) M o E := by
  intro t ho hE
  have k := k t ho hE
  obtain ⟨p, l, e, R, st, m, args, below, meth, cd, A, Qc, mc, ms⟩ := κ
  intro X H locs ls hH hS hl
  obtain ⟨h1, h2, h3, h4⟩ := hX
  have hz := zix (n := Ln) hi h4
  refine va_sld X.1 X.2.1 h1 h2 h3 hS hz.1 d ?_
  rw [hz.2]
  have K := k X H locs ls hH hS hl
  rw [← ha] at K
  unfold iv at K
  rw [zi_back] at K
  exact K
def zeq {τ : Type} (a b : Int) (X : Option τ) : Option τ := if a = b then X else none
theorem zv_icmp_z {τ : Type} {bs : ByteArray} {own : String} {nL : Nat} {ret : Option FieldType} {κ : zC} {w : zW} {n : Nat × Nat × Nat} {pc : Nat} {L : List (Nat × Value)} {S : List Value} {M : zM} {E : τ → Prop} {a b : Int} {X : Option τ} {off : Int} {tgt : Nat} (d : decode bs pc = .ok (.if_icmp .eq off, 3)) (ht : (pc : Int) + off = (tgt : Int)) (kt : zV bs own nL ret κ w n tgt L S M X E) : zV bs own nL ret κ w n pc L (iv b :: iv a :: S) M (zeq a b X) E := by
  unfold zeq
  split
  · rename_i h
    subst h
    exact zv_w (fun _ _ _ _ _ _ _ _ _ _ _ _ _ _ _ _ hx hb hts hown hl k => lv_icmp_eq hx hb d ht (fun _ => k) (fun q => absurd rfl q)) kt
  · exact zv_none
theorem zlg_rf {a : Int} : lg_cmp (Int64.ofInt a) (Int64.ofInt a) = 0 := by
  unfold lg_cmp
  rw [if_neg (Int64.lt_irrefl), if_pos rfl]
theorem zv_lcmp_z {τ : Type} {bs : ByteArray} {own : String} {nL : Nat} {ret : Option FieldType} {κ : zC} {w : zW} {n : Nat × Nat × Nat} {pc : Nat} {L : List (Nat × Value)} {S : List Value} {M : zM} {E : τ → Prop} {a b : Int} {X : Option τ} {off : Int} {tgt : Nat} (d0 : decode bs pc = .ok (.lcmp, 1)) (d : decode bs (pc + 1) = .ok (.ifCond .eq off, 3)) (ht : ((pc + 1 : Nat) : Int) + off = (tgt : Int)) (kt : zV bs own nL ret κ w n tgt L S M X E) : zV bs own nL ret κ w n pc L (jv b :: jv a :: S) M (zeq a b X) E := by
  unfold zeq
  split
  · rename_i h
    subst h
    exact zv_w (fun _ _ _ _ _ _ _ _ _ _ _ _ _ _ _ _ hx hb hts hown hl k => W.lcmp hx hb d0 (lv_if_eq hx hb d ht (fun _ => k) (fun q => absurd zlg_rf q))) kt
  · exact zv_none
theorem zeq_p {τ : Type} {a b : Int} {X : Option τ} (h : a = b) : zeq a b X = X := if_pos h
theorem zP2_q {i L : Nat} {E : zE} {f g : zM → Option (zM × Int)} {M : zM} (h : zP2 i L E f g M) : zO (zbd (f M) (fun M2 v1 => zbd (g M2) (fun M4 v3 => zeq v1 v3 (some M4)))) (fun M' => ∃ L' E', zInv i L' M' E') := by
  refine zO_bd (zO_mono h (fun r hr => zO_bd (zO_mono hr (fun r' hr' => ?_))))
  rw [zeq_p hr'.1]
  exact zO_some ⟨_, _, hr'.2⟩
theorem zP1_q {i L : Nat} {E : zE} {f : zM → Option Int} {g : zM → Option (zM × Int)} {M : zM} (h : zP1 i L E f g M) : zO (zb1 (f M) (fun v1 => zbd (g M) (fun M4 v3 => zeq v1 v3 (some M4)))) (fun M' => ∃ L' E', zInv i L' M' E') := by
  refine zO_b1 (zO_mono h (fun r hr => zO_bd (zO_mono hr (fun r' hr' => ?_))))
  rw [zeq_p hr'.1]
  exact zO_some ⟨_, _, hr'.2⟩
theorem zP0_q {i L : Nat} {E : zE} {f g : zM → Option Int} {M : zM} (hI : zInv i L M E) (h : zP0 f g M) : zO (zb1 (f M) (fun v1 => zb1 (g M) (fun v3 => zeq v1 v3 (some M)))) (fun M' => ∃ L' E', zInv i L' M' E') := by
  obtain ⟨v, h1, h2⟩ := h
  refine zO_b1e h1 (zO_b1e h2 ?_)
  rw [zeq_p rfl]
  exact zO_some ⟨_, _, hI⟩
theorem zflag {a : Int} (h : zr a) : zbr a 0 (a = 0) (some (0 : Int)) (some 1) = some (if a = 0 then 0 else 1) := by
  unfold zbr
  rw [if_pos ⟨h, by omega⟩]
  split <;> rfl
theorem zflag01 {a : Int} : (if a = 0 then (0 : Int) else 1) = 0 ∨ (if a = 0 then (0 : Int) else 1) = 1 := by split <;> omega
theorem zb1_s {α τ : Type} {a : α} {X : α → Option τ} : zb1 (some a) X = X a := rfl
def fL_0 (k : zK) (a1 : Int) (a2 : Int) (a3 : Int) (M0 : zM) : Option zM :=
  zbd (f_X10_sound k 1 a1 a2 a3 M0) (fun M2 v1 => zbd (f_X11_sound k 76 a1 a2 a3 M2) (fun M4 v3 => zeq v1 v3 (some M4)))
theorem vL_0 {κ : zC} {w : zW} (hw : zWk w) {b Ln : Nat} {xs : Nat → Int32} (hX : zSc κ b Ln xs) (hx1 : ztag w.1 1 = 11) (hm1 : ztag w.1 76 = 12) (n0 n1 : Nat) (i3 : Int) (hi : 0 ≤ i3 ∧ i3 + 6 ≤ (Ln : Int)) (a1 : Int) (a2 : Int) (a3 : Int) (ha1 : (xs (i3 + 1).toNat).toInt = a1) (ha2 : (xs (i3 + 2).toNat).toInt = a2) (ha3 : (xs (i3 + 3).toNat).toInt = a3) (M0 : zM) (E : zM → Prop) (hE : ∀ M, E M → zB cL_law RL 4 (some .boolean) κ w (n0, n1, 1000) 1700 [(3, iv i3), (1, rn w 1), (2, rn w 76), (0, Value.ref b)] [] M) :
    zV cL_law RL 4 (some .boolean) κ w (n0, n1, 1000) 208 [(3, iv i3), (1, rn w 1), (2, rn w 76), (0, Value.ref b)] [] M0 (fL_0 w.1 a1 a2 a3 M0) E := by
  have hT := hw.1
  unfold fL_0
  refine zv_rload_n dL_law_208 1 rfl ?_
  refine zv_aload_n dL_law_209 3 rfl ?_
  refine zv_iload_n dL_law_210 0 rfl ?_
  refine zv_iconst (z := 1) dL_law_211 ?_
  refine zv_iadd dL_law_212 ?_
  refine zv_sld hX (by omega) ha1 dL_law_213 ?_
  refine zv_aload_n dL_law_214 3 rfl ?_
  refine zv_iload_n dL_law_215 0 rfl ?_
  refine zv_iconst (z := 2) dL_law_216 ?_
  refine zv_iadd dL_law_217 ?_
  refine zv_sld hX (by omega) ha2 dL_law_218 ?_
  refine zv_aload_n dL_law_219 3 rfl ?_
  refine zv_iload_n dL_law_220 0 rfl ?_
  refine zv_iconst (z := 3) dL_law_221 ?_
  refine zv_iadd dL_law_222 ?_
  refine zv_sld hX (by omega) ha3 dL_law_223 ?_
  refine (zv_callVi [iv a1, iv a2, iv a3] (c_X10_sound κ.2.1 hw 1 a1 a2 a3 M0 hx1) zmd_X10_sound zwI_X10_sound zwS_X10_sound zwM_RL_13 zcd_10 hx1 rfl (Nat.le_of_ble_eq_true rfl) rfl (Nat.le_of_ble_eq_true rfl) dL_law_224 (fun M2 v1 _ => ?_))
  refine zv_rload_n dL_law_227 2 rfl ?_
  refine zv_aload_n dL_law_228 3 rfl ?_
  refine zv_iload_n dL_law_229 0 rfl ?_
  refine zv_iconst (z := 1) dL_law_230 ?_
  refine zv_iadd dL_law_231 ?_
  refine zv_sld hX (by omega) ha1 dL_law_232 ?_
  refine zv_aload_n dL_law_233 3 rfl ?_
  refine zv_iload_n dL_law_234 0 rfl ?_
  refine zv_iconst (z := 2) dL_law_235 ?_
  refine zv_iadd dL_law_236 ?_
  refine zv_sld hX (by omega) ha2 dL_law_237 ?_
  refine zv_aload_n dL_law_238 3 rfl ?_
  refine zv_iload_n dL_law_239 0 rfl ?_
  refine zv_iconst (z := 3) dL_law_240 ?_
  refine zv_iadd dL_law_241 ?_
  refine zv_sld hX (by omega) ha3 dL_law_242 ?_
  refine (zv_callVi [iv a1, iv a2, iv a3] (c_X11_sound κ.2.1 hw 76 a1 a2 a3 M2 hm1) zmd_X11_sound zwI_X11_sound zwS_X11_sound zwM_RL_17 zcd_11 hm1 rfl (Nat.le_of_ble_eq_true rfl) rfl (Nat.le_of_ble_eq_true rfl) dL_law_243 (fun M4 v3 _ => ?_))
  refine zv_icmp_z (tgt := 1700) dL_law_246 (by decide) ?_
  exact zv_sub (L' := [(3, iv i3), (1, rn w 1), (2, rn w 76), (0, Value.ref b)]) [0, 1, 2, 3] rfl (zv_exit (fun h => hE _ h))
theorem qL_0 {i L : Nat} {M : zM} {E : zE} {a1 a2 a3 : Int} (hI : zInv i L M E) (h1 : zr a1) (h2 : zr a2) (h3 : zr a3) : zO (fL_0 (zKn i) a1 a2 a3 M) (fun M' => ∃ L' E', zInv i L' M' E') := by
  unfold fL_0
  rw [e_X10_sound, e_X11_sound]
  exact zP2_q (p_sound hI h1 h2 h3)
def fL_1 (k : zK) (a1 : Int) (a2 : Int) (a3 : Int) (a4 : Int) (a5 : Int) (M0 : zM) : Option zM :=
  zbd (f_X10_feed k 1 a1 a2 a3 a4 a5 M0) (fun M2 v1 => zbd (f_X11_feed k 76 a1 a2 a3 a4 a5 M2) (fun M4 v3 => zeq v1 v3 (some M4)))
theorem vL_1 {κ : zC} {w : zW} (hw : zWk w) {b Ln : Nat} {xs : Nat → Int32} (hX : zSc κ b Ln xs) (hx1 : ztag w.1 1 = 11) (hm1 : ztag w.1 76 = 12) (n0 n1 : Nat) (i3 : Int) (hi : 0 ≤ i3 ∧ i3 + 6 ≤ (Ln : Int)) (a1 : Int) (a2 : Int) (a3 : Int) (a4 : Int) (a5 : Int) (ha1 : (xs (i3 + 1).toNat).toInt = a1) (ha2 : (xs (i3 + 2).toNat).toInt = a2) (ha3 : (xs (i3 + 3).toNat).toInt = a3) (ha4 : (xs (i3 + 4).toNat).toInt = a4) (ha5 : (xs (i3 + 5).toNat).toInt = a5) (M0 : zM) (E : zM → Prop) (hE : ∀ M, E M → zB cL_law RL 4 (some .boolean) κ w (n0, n1, 1000) 1700 [(3, iv i3), (1, rn w 1), (2, rn w 76), (0, Value.ref b)] [] M) :
    zV cL_law RL 4 (some .boolean) κ w (n0, n1, 1000) 251 [(3, iv i3), (1, rn w 1), (2, rn w 76), (0, Value.ref b)] [] M0 (fL_1 w.1 a1 a2 a3 a4 a5 M0) E := by
  have hT := hw.1
  unfold fL_1
  refine zv_rload_n dL_law_251 1 rfl ?_
  refine zv_aload_n dL_law_252 3 rfl ?_
  refine zv_iload_n dL_law_253 0 rfl ?_
  refine zv_iconst (z := 1) dL_law_254 ?_
  refine zv_iadd dL_law_255 ?_
  refine zv_sld hX (by omega) ha1 dL_law_256 ?_
  refine zv_aload_n dL_law_257 3 rfl ?_
  refine zv_iload_n dL_law_258 0 rfl ?_
  refine zv_iconst (z := 2) dL_law_259 ?_
  refine zv_iadd dL_law_260 ?_
  refine zv_sld hX (by omega) ha2 dL_law_261 ?_
  refine zv_aload_n dL_law_262 3 rfl ?_
  refine zv_iload_n dL_law_263 0 rfl ?_
  refine zv_iconst (z := 3) dL_law_264 ?_
  refine zv_iadd dL_law_265 ?_
  refine zv_sld hX (by omega) ha3 dL_law_266 ?_
  refine zv_aload_n dL_law_267 3 rfl ?_
  refine zv_iload_n dL_law_268 0 rfl ?_
  refine zv_iconst (z := 4) dL_law_269 ?_
  refine zv_iadd dL_law_270 ?_
  refine zv_sld hX (by omega) ha4 dL_law_271 ?_
  refine zv_aload_n dL_law_272 3 rfl ?_
  refine zv_iload_n dL_law_273 0 rfl ?_
  refine zv_iconst (z := 5) dL_law_274 ?_
  refine zv_iadd dL_law_275 ?_
  refine zv_sld hX (by omega) ha5 dL_law_276 ?_
  refine (zv_callVi [iv a1, iv a2, iv a3, iv a4, iv a5] (c_X10_feed κ.2.1 hw 1 a1 a2 a3 a4 a5 M0 hx1) zmd_X10_feed zwI_X10_feed zwS_X10_feed zwM_RL_18 zcd_10 hx1 rfl (Nat.le_of_ble_eq_true rfl) rfl (Nat.le_of_ble_eq_true rfl) dL_law_277 (fun M2 v1 _ => ?_))
  refine zv_rload_n dL_law_280 2 rfl ?_
  refine zv_aload_n dL_law_281 3 rfl ?_
  refine zv_iload_n dL_law_282 0 rfl ?_
  refine zv_iconst (z := 1) dL_law_283 ?_
  refine zv_iadd dL_law_284 ?_
  refine zv_sld hX (by omega) ha1 dL_law_285 ?_
  refine zv_aload_n dL_law_286 3 rfl ?_
  refine zv_iload_n dL_law_287 0 rfl ?_
  refine zv_iconst (z := 2) dL_law_288 ?_
  refine zv_iadd dL_law_289 ?_
  refine zv_sld hX (by omega) ha2 dL_law_290 ?_
  refine zv_aload_n dL_law_291 3 rfl ?_
  refine zv_iload_n dL_law_292 0 rfl ?_
  refine zv_iconst (z := 3) dL_law_293 ?_
  refine zv_iadd dL_law_294 ?_
  refine zv_sld hX (by omega) ha3 dL_law_295 ?_
  refine zv_aload_n dL_law_296 3 rfl ?_
  refine zv_iload_n dL_law_297 0 rfl ?_
  refine zv_iconst (z := 4) dL_law_298 ?_
  refine zv_iadd dL_law_299 ?_
  refine zv_sld hX (by omega) ha4 dL_law_300 ?_
  refine zv_aload_n dL_law_301 3 rfl ?_
  refine zv_iload_n dL_law_302 0 rfl ?_
  refine zv_iconst (z := 5) dL_law_303 ?_
  refine zv_iadd dL_law_304 ?_
  refine zv_sld hX (by omega) ha5 dL_law_305 ?_
  refine (zv_callVi [iv a1, iv a2, iv a3, iv a4, iv a5] (c_X11_feed κ.2.1 hw 76 a1 a2 a3 a4 a5 M2 hm1) zmd_X11_feed zwI_X11_feed zwS_X11_feed zwM_RL_22 zcd_11 hm1 rfl (Nat.le_of_ble_eq_true rfl) rfl (Nat.le_of_ble_eq_true rfl) dL_law_306 (fun M4 v3 _ => ?_))
  refine zv_icmp_z (tgt := 1700) dL_law_309 (by decide) ?_
  exact zv_sub (L' := [(3, iv i3), (1, rn w 1), (2, rn w 76), (0, Value.ref b)]) [0, 1, 2, 3] rfl (zv_exit (fun h => hE _ h))
theorem qL_1 {i L : Nat} {M : zM} {E : zE} {a1 a2 a3 a4 a5 : Int} (hI : zInv i L M E) (h1 : zr a1) (h2 : zr a2) (h3 : zr a3) (h4 : zr a4) (h5 : zr a5) : zO (fL_1 (zKn i) a1 a2 a3 a4 a5 M) (fun M' => ∃ L' E', zInv i L' M' E') := by
  unfold fL_1
  rw [e_X10_feed, e_X11_feed]
  exact zP2_q (p_feed hI )
def fL_2 (k : zK) (a1 : Int) (M0 : zM) : Option zM :=
  zbd (f_X10_law k 1 a1 M0) (fun M2 v1 => zbd (f_X11_law k 76 a1 M2) (fun M4 v3 => zeq v1 v3 (some M4)))
theorem vL_2 {κ : zC} {w : zW} (hw : zWk w) {b Ln : Nat} {xs : Nat → Int32} (hX : zSc κ b Ln xs) (hx1 : ztag w.1 1 = 11) (hm1 : ztag w.1 76 = 12) (n0 n1 : Nat) (i3 : Int) (hi : 0 ≤ i3 ∧ i3 + 6 ≤ (Ln : Int)) (a1 : Int) (ha1 : (xs (i3 + 1).toNat).toInt = a1) (M0 : zM) (E : zM → Prop) (hE : ∀ M, E M → zB cL_law RL 4 (some .boolean) κ w (n0, n1, 1000) 1700 [(3, iv i3), (1, rn w 1), (2, rn w 76), (0, Value.ref b)] [] M) :
    zV cL_law RL 4 (some .boolean) κ w (n0, n1, 1000) 314 [(3, iv i3), (1, rn w 1), (2, rn w 76), (0, Value.ref b)] [] M0 (fL_2 w.1 a1 M0) E := by
  have hT := hw.1
  unfold fL_2
  refine zv_rload_n dL_law_314 1 rfl ?_
  refine zv_aload_n dL_law_315 3 rfl ?_
  refine zv_iload_n dL_law_316 0 rfl ?_
  refine zv_iconst (z := 1) dL_law_317 ?_
  refine zv_iadd dL_law_318 ?_
  refine zv_sld hX (by omega) ha1 dL_law_319 ?_
  refine (zv_callVi [iv a1] (c_X10_law κ.2.1 hw 1 a1 M0 hx1) zmd_X10_law zwI_X10_law zwS_X10_law zwM_RL_23 zcd_10 hx1 rfl (Nat.le_of_ble_eq_true rfl) rfl (Nat.le_of_ble_eq_true rfl) dL_law_320 (fun M2 v1 _ => ?_))
  refine zv_rload_n dL_law_323 2 rfl ?_
  refine zv_aload_n dL_law_324 3 rfl ?_
  refine zv_iload_n dL_law_325 0 rfl ?_
  refine zv_iconst (z := 1) dL_law_326 ?_
  refine zv_iadd dL_law_327 ?_
  refine zv_sld hX (by omega) ha1 dL_law_328 ?_
  refine (zv_callVi [iv a1] (c_X11_law κ.2.1 hw 76 a1 M2 hm1) zmd_X11_law zwI_X11_law zwS_X11_law zwM_RL_27 zcd_11 hm1 rfl (Nat.le_of_ble_eq_true rfl) rfl (Nat.le_of_ble_eq_true rfl) dL_law_329 (fun M4 v3 _ => ?_))
  refine zv_icmp_z (tgt := 1700) dL_law_332 (by decide) ?_
  exact zv_sub (L' := [(3, iv i3), (1, rn w 1), (2, rn w 76), (0, Value.ref b)]) [0, 1, 2, 3] rfl (zv_exit (fun h => hE _ h))
theorem qL_2 {i L : Nat} {M : zM} {E : zE} {a1 : Int} (hI : zInv i L M E) (h1 : zr a1) : zO (fL_2 (zKn i) a1 M) (fun M' => ∃ L' E', zInv i L' M' E') := by
  unfold fL_2
  rw [e_X10_law, e_X11_law]
  refine zO_bd (zO_mono (p_law hI h1) (fun r hr => zO_bd (zO_mono hr (fun r' hr' => ?_))))
  rw [zeq_p hr'.1]
  exact zO_some hr'.2
def fL_3 (k : zK)  (M0 : zM) : Option zM :=
  zb1 (f_X10_fault k 1 M0) (fun v1 => zb1 (f_X11_fault k 76 M0) (fun v3 => zeq v1 v3 (some M0)))
theorem vL_3 {κ : zC} {w : zW} (hw : zWk w) {b Ln : Nat} {xs : Nat → Int32} (hX : zSc κ b Ln xs) (hx1 : ztag w.1 1 = 11) (hm1 : ztag w.1 76 = 12) (n0 n1 : Nat) (i3 : Int) (hi : 0 ≤ i3 ∧ i3 + 6 ≤ (Ln : Int))   (M0 : zM) (E : zM → Prop) (hE : ∀ M, E M → zB cL_law RL 4 (some .boolean) κ w (n0, n1, 1000) 1700 [(3, iv i3), (1, rn w 1), (2, rn w 76), (0, Value.ref b)] [] M) :
    zV cL_law RL 4 (some .boolean) κ w (n0, n1, 1000) 337 [(3, iv i3), (1, rn w 1), (2, rn w 76), (0, Value.ref b)] [] M0 (fL_3 w.1  M0) E := by
  have hT := hw.1
  unfold fL_3
  refine zv_rload_n dL_law_337 1 rfl ?_
  refine zv_pc (zv_callVi [] (c_X10_fault κ.2.1 hw 1 M0 hx1) zmd_X10_fault zwI_X10_fault zwS_X10_fault zwM_RL_28 zcd_10 hx1 rfl (Nat.le_of_ble_eq_true rfl) rfl (Nat.le_of_ble_eq_true rfl) dL_law_338 (fun mh2 v1 h2 => ?_))
  obtain rfl := zpuE h2
  refine zv_rload_n dL_law_341 2 rfl ?_
  refine zv_pc (zv_callVi [] (c_X11_fault κ.2.1 hw 76 M0 hm1) zmd_X11_fault zwI_X11_fault zwS_X11_fault zwM_RL_32 zcd_11 hm1 rfl (Nat.le_of_ble_eq_true rfl) rfl (Nat.le_of_ble_eq_true rfl) dL_law_342 (fun mh4 v3 h4 => ?_))
  obtain rfl := zpuE h4
  refine zv_icmp_z (tgt := 1700) dL_law_345 (by decide) ?_
  exact zv_sub (L' := [(3, iv i3), (1, rn w 1), (2, rn w 76), (0, Value.ref b)]) [0, 1, 2, 3] rfl (zv_exit (fun h => hE _ h))
theorem qL_3 {i L : Nat} {M : zM} {E : zE} (hI : zInv i L M E) : zO (fL_3 (zKn i) M) (fun M' => ∃ L' E', zInv i L' M' E') := by
  unfold fL_3
  rw [e_X10_fault, e_X11_fault]
  exact zP0_q hI (p_fault hI )
def fL_4 (k : zK) (a1 : Int) (a2 : Int) (M0 : zM) : Option zM :=
  zb1 (f_X10_sea k 1 a1 a2 M0) (fun v1 => zbd (f_X11_sea k 76 a1 a2 M0) (fun M4 v3 => zeq v1 v3 (some M4)))
theorem vL_4 {κ : zC} {w : zW} (hw : zWk w) {b Ln : Nat} {xs : Nat → Int32} (hX : zSc κ b Ln xs) (hx1 : ztag w.1 1 = 11) (hm1 : ztag w.1 76 = 12) (n0 n1 : Nat) (i3 : Int) (hi : 0 ≤ i3 ∧ i3 + 6 ≤ (Ln : Int)) (a1 : Int) (a2 : Int) (ha1 : (xs (i3 + 1).toNat).toInt = a1) (ha2 : (xs (i3 + 2).toNat).toInt = a2) (M0 : zM) (E : zM → Prop) (hE : ∀ M, E M → zB cL_law RL 4 (some .boolean) κ w (n0, n1, 1000) 1700 [(3, iv i3), (1, rn w 1), (2, rn w 76), (0, Value.ref b)] [] M) :
    zV cL_law RL 4 (some .boolean) κ w (n0, n1, 1000) 350 [(3, iv i3), (1, rn w 1), (2, rn w 76), (0, Value.ref b)] [] M0 (fL_4 w.1 a1 a2 M0) E := by
  have hT := hw.1
  unfold fL_4
  refine zv_rload_n dL_law_350 1 rfl ?_
  refine zv_aload_n dL_law_351 3 rfl ?_
  refine zv_iload_n dL_law_352 0 rfl ?_
  refine zv_iconst (z := 1) dL_law_353 ?_
  refine zv_iadd dL_law_354 ?_
  refine zv_sld hX (by omega) ha1 dL_law_355 ?_
  refine zv_aload_n dL_law_356 3 rfl ?_
  refine zv_iload_n dL_law_357 0 rfl ?_
  refine zv_iconst (z := 2) dL_law_358 ?_
  refine zv_iadd dL_law_359 ?_
  refine zv_sld hX (by omega) ha2 dL_law_360 ?_
  refine zv_pc (zv_callVi [iv a1, iv a2] (c_X10_sea κ.2.1 hw 1 a1 a2 M0 hx1) zmd_X10_sea zwI_X10_sea zwS_X10_sea zwM_RL_33 zcd_10 hx1 rfl (Nat.le_of_ble_eq_true rfl) rfl (Nat.le_of_ble_eq_true rfl) dL_law_361 (fun mh2 v1 h2 => ?_))
  obtain rfl := zpuE h2
  refine zv_rload_n dL_law_364 2 rfl ?_
  refine zv_aload_n dL_law_365 3 rfl ?_
  refine zv_iload_n dL_law_366 0 rfl ?_
  refine zv_iconst (z := 1) dL_law_367 ?_
  refine zv_iadd dL_law_368 ?_
  refine zv_sld hX (by omega) ha1 dL_law_369 ?_
  refine zv_aload_n dL_law_370 3 rfl ?_
  refine zv_iload_n dL_law_371 0 rfl ?_
  refine zv_iconst (z := 2) dL_law_372 ?_
  refine zv_iadd dL_law_373 ?_
  refine zv_sld hX (by omega) ha2 dL_law_374 ?_
  refine (zv_callVi [iv a1, iv a2] (c_X11_sea κ.2.1 hw 76 a1 a2 M0 hm1) zmd_X11_sea zwI_X11_sea zwS_X11_sea zwM_RL_37 zcd_11 hm1 rfl (Nat.le_of_ble_eq_true rfl) rfl (Nat.le_of_ble_eq_true rfl) dL_law_375 (fun M4 v3 _ => ?_))
  refine zv_icmp_z (tgt := 1700) dL_law_378 (by decide) ?_
  exact zv_sub (L' := [(3, iv i3), (1, rn w 1), (2, rn w 76), (0, Value.ref b)]) [0, 1, 2, 3] rfl (zv_exit (fun h => hE _ h))
theorem qL_4 {i L : Nat} {M : zM} {E : zE} {a1 a2 : Int} (hI : zInv i L M E) (h1 : zr a1) (h2 : zr a2) : zO (fL_4 (zKn i) a1 a2 M) (fun M' => ∃ L' E', zInv i L' M' E') := by
  unfold fL_4
  rw [e_X10_sea, e_X11_sea]
  exact zP1_q (p_sea hI h1 h2)
def fL_5 (k : zK) (a1 : Int) (a2 : Int) (M0 : zM) : Option zM :=
  zbd (f_X10_cell k 1 a1 a2 M0) (fun M2 v1 => zbd (f_X11_cell k 76 a1 a2 M2) (fun M4 v3 => zeq v1 v3 (some M4)))
theorem vL_5 {κ : zC} {w : zW} (hw : zWk w) {b Ln : Nat} {xs : Nat → Int32} (hX : zSc κ b Ln xs) (hx1 : ztag w.1 1 = 11) (hm1 : ztag w.1 76 = 12) (n0 n1 : Nat) (i3 : Int) (hi : 0 ≤ i3 ∧ i3 + 6 ≤ (Ln : Int)) (a1 : Int) (a2 : Int) (ha1 : (xs (i3 + 1).toNat).toInt = a1) (ha2 : (xs (i3 + 2).toNat).toInt = a2) (M0 : zM) (E : zM → Prop) (hE : ∀ M, E M → zB cL_law RL 4 (some .boolean) κ w (n0, n1, 1000) 1700 [(3, iv i3), (1, rn w 1), (2, rn w 76), (0, Value.ref b)] [] M) :
    zV cL_law RL 4 (some .boolean) κ w (n0, n1, 1000) 383 [(3, iv i3), (1, rn w 1), (2, rn w 76), (0, Value.ref b)] [] M0 (fL_5 w.1 a1 a2 M0) E := by
  have hT := hw.1
  unfold fL_5
  refine zv_rload_n dL_law_383 1 rfl ?_
  refine zv_aload_n dL_law_384 3 rfl ?_
  refine zv_iload_n dL_law_385 0 rfl ?_
  refine zv_iconst (z := 1) dL_law_386 ?_
  refine zv_iadd dL_law_387 ?_
  refine zv_sld hX (by omega) ha1 dL_law_388 ?_
  refine zv_aload_n dL_law_389 3 rfl ?_
  refine zv_iload_n dL_law_390 0 rfl ?_
  refine zv_iconst (z := 2) dL_law_391 ?_
  refine zv_iadd dL_law_392 ?_
  refine zv_sld hX (by omega) ha2 dL_law_393 ?_
  refine (zv_callVi [iv a1, iv a2] (c_X10_cell κ.2.1 hw 1 a1 a2 M0 hx1) zmd_X10_cell zwI_X10_cell zwS_X10_cell zwM_RL_38 zcd_10 hx1 rfl (Nat.le_of_ble_eq_true rfl) rfl (Nat.le_of_ble_eq_true rfl) dL_law_394 (fun M2 v1 _ => ?_))
  refine zv_rload_n dL_law_397 2 rfl ?_
  refine zv_aload_n dL_law_398 3 rfl ?_
  refine zv_iload_n dL_law_399 0 rfl ?_
  refine zv_iconst (z := 1) dL_law_400 ?_
  refine zv_iadd dL_law_401 ?_
  refine zv_sld hX (by omega) ha1 dL_law_402 ?_
  refine zv_aload_n dL_law_403 3 rfl ?_
  refine zv_iload_n dL_law_404 0 rfl ?_
  refine zv_iconst (z := 2) dL_law_405 ?_
  refine zv_iadd dL_law_406 ?_
  refine zv_sld hX (by omega) ha2 dL_law_407 ?_
  refine (zv_callVi [iv a1, iv a2] (c_X11_cell κ.2.1 hw 76 a1 a2 M2 hm1) zmd_X11_cell zwI_X11_cell zwS_X11_cell zwM_RL_41 zcd_11 hm1 rfl (Nat.le_of_ble_eq_true rfl) rfl (Nat.le_of_ble_eq_true rfl) dL_law_408 (fun M4 v3 _ => ?_))
  refine zv_icmp_z (tgt := 1700) dL_law_411 (by decide) ?_
  exact zv_sub (L' := [(3, iv i3), (1, rn w 1), (2, rn w 76), (0, Value.ref b)]) [0, 1, 2, 3] rfl (zv_exit (fun h => hE _ h))
theorem qL_5 {i L : Nat} {M : zM} {E : zE} {a1 a2 : Int} (hI : zInv i L M E) (h1 : zr a1) (h2 : zr a2) : zO (fL_5 (zKn i) a1 a2 M) (fun M' => ∃ L' E', zInv i L' M' E') := by
  unfold fL_5
  rw [e_X10_cell, e_X11_cell]
  exact zP2_q (p_cell hI h1 h2)
def fL_6 (k : zK) (a1 : Int) (a2 : Int) (a3 : Int) (M0 : zM) : Option zM :=
  zbd (f_X10_asked k 1 a1 a2 a3 M0) (fun M2 v1 => zbd (f_X11_asked_ k 76 a1 a2 a3 M2) (fun M4 v3 => zeq v1 v3 (some M4)))
theorem vL_6 {κ : zC} {w : zW} (hw : zWk w) {b Ln : Nat} {xs : Nat → Int32} (hX : zSc κ b Ln xs) (hx1 : ztag w.1 1 = 11) (hm1 : ztag w.1 76 = 12) (n0 n1 : Nat) (i3 : Int) (hi : 0 ≤ i3 ∧ i3 + 6 ≤ (Ln : Int)) (a1 : Int) (a2 : Int) (a3 : Int) (ha1 : (xs (i3 + 1).toNat).toInt = a1) (ha2 : (xs (i3 + 2).toNat).toInt = a2) (ha3 : (xs (i3 + 3).toNat).toInt = a3) (M0 : zM) (E : zM → Prop) (hE : ∀ M, E M → zB cL_law RL 4 (some .boolean) κ w (n0, n1, 1000) 1700 [(3, iv i3), (1, rn w 1), (2, rn w 76), (0, Value.ref b)] [] M) :
    zV cL_law RL 4 (some .boolean) κ w (n0, n1, 1000) 416 [(3, iv i3), (1, rn w 1), (2, rn w 76), (0, Value.ref b)] [] M0 (fL_6 w.1 a1 a2 a3 M0) E := by
  have hT := hw.1
  unfold fL_6
  refine zv_rload_n dL_law_416 1 rfl ?_
  refine zv_aload_n dL_law_417 3 rfl ?_
  refine zv_iload_n dL_law_418 0 rfl ?_
  refine zv_iconst (z := 1) dL_law_419 ?_
  refine zv_iadd dL_law_420 ?_
  refine zv_sld hX (by omega) ha1 dL_law_421 ?_
  refine zv_aload_n dL_law_422 3 rfl ?_
  refine zv_iload_n dL_law_423 0 rfl ?_
  refine zv_iconst (z := 2) dL_law_424 ?_
  refine zv_iadd dL_law_425 ?_
  refine zv_sld hX (by omega) ha2 dL_law_426 ?_
  refine zv_aload_n dL_law_427 3 rfl ?_
  refine zv_iload_n dL_law_428 0 rfl ?_
  refine zv_iconst (z := 3) dL_law_429 ?_
  refine zv_iadd dL_law_430 ?_
  refine zv_sld hX (by omega) ha3 dL_law_431 ?_
  refine (zv_callVi [iv a1, iv a2, iv a3] (c_X10_asked κ.2.1 hw 1 a1 a2 a3 M0 hx1) zmd_X10_asked zwI_X10_asked zwS_X10_asked zwM_RL_42 zcd_10 hx1 rfl (Nat.le_of_ble_eq_true rfl) rfl (Nat.le_of_ble_eq_true rfl) dL_law_432 (fun M2 v1 _ => ?_))
  refine zv_rload_n dL_law_435 2 rfl ?_
  refine zv_aload_n dL_law_436 3 rfl ?_
  refine zv_iload_n dL_law_437 0 rfl ?_
  refine zv_iconst (z := 1) dL_law_438 ?_
  refine zv_iadd dL_law_439 ?_
  refine zv_sld hX (by omega) ha1 dL_law_440 ?_
  refine zv_aload_n dL_law_441 3 rfl ?_
  refine zv_iload_n dL_law_442 0 rfl ?_
  refine zv_iconst (z := 2) dL_law_443 ?_
  refine zv_iadd dL_law_444 ?_
  refine zv_sld hX (by omega) ha2 dL_law_445 ?_
  refine zv_aload_n dL_law_446 3 rfl ?_
  refine zv_iload_n dL_law_447 0 rfl ?_
  refine zv_iconst (z := 3) dL_law_448 ?_
  refine zv_iadd dL_law_449 ?_
  refine zv_sld hX (by omega) ha3 dL_law_450 ?_
  refine (zv_callVi [iv a1, iv a2, iv a3] (c_X11_asked_ κ.2.1 hw 76 a1 a2 a3 M2 hm1) zmd_X11_asked_ zwI_X11_asked_ zwS_X11_asked_ zwM_RL_46 zcd_11 hm1 rfl (Nat.le_of_ble_eq_true rfl) rfl (Nat.le_of_ble_eq_true rfl) dL_law_451 (fun M4 v3 _ => ?_))
  refine zv_icmp_z (tgt := 1700) dL_law_454 (by decide) ?_
  exact zv_sub (L' := [(3, iv i3), (1, rn w 1), (2, rn w 76), (0, Value.ref b)]) [0, 1, 2, 3] rfl (zv_exit (fun h => hE _ h))
theorem qL_6 {i L : Nat} {M : zM} {E : zE} {a1 a2 a3 : Int} (hI : zInv i L M E) (h1 : zr a1) (h2 : zr a2) (h3 : zr a3) : zO (fL_6 (zKn i) a1 a2 a3 M) (fun M' => ∃ L' E', zInv i L' M' E') := by
  unfold fL_6
  rw [e_X10_asked, e_X11_asked_]
  exact zP2_q (p_asked hI h1 h2 h3)
def fL_7 (k : zK) (a1 : Int) (M0 : zM) : Option zM :=
  zbd (f_X10_shore k 1 a1 M0) (fun M2 v1 => zbd (f_X11_shore k 76 a1 M2) (fun M4 v3 => zeq v1 v3 (some M4)))
theorem vL_7 {κ : zC} {w : zW} (hw : zWk w) {b Ln : Nat} {xs : Nat → Int32} (hX : zSc κ b Ln xs) (hx1 : ztag w.1 1 = 11) (hm1 : ztag w.1 76 = 12) (n0 n1 : Nat) (i3 : Int) (hi : 0 ≤ i3 ∧ i3 + 6 ≤ (Ln : Int)) (a1 : Int) (ha1 : (xs (i3 + 1).toNat).toInt = a1) (M0 : zM) (E : zM → Prop) (hE : ∀ M, E M → zB cL_law RL 4 (some .boolean) κ w (n0, n1, 1000) 1700 [(3, iv i3), (1, rn w 1), (2, rn w 76), (0, Value.ref b)] [] M) :
    zV cL_law RL 4 (some .boolean) κ w (n0, n1, 1000) 459 [(3, iv i3), (1, rn w 1), (2, rn w 76), (0, Value.ref b)] [] M0 (fL_7 w.1 a1 M0) E := by
  have hT := hw.1
  unfold fL_7
  refine zv_rload_n dL_law_459 1 rfl ?_
  refine zv_aload_n dL_law_460 3 rfl ?_
  refine zv_iload_n dL_law_461 0 rfl ?_
  refine zv_iconst (z := 1) dL_law_462 ?_
  refine zv_iadd dL_law_463 ?_
  refine zv_sld hX (by omega) ha1 dL_law_464 ?_
  refine (zv_callVi [iv a1] (c_X10_shore κ.2.1 hw 1 a1 M0 hx1) zmd_X10_shore zwI_X10_shore zwS_X10_shore zwM_RL_47 zcd_10 hx1 rfl (Nat.le_of_ble_eq_true rfl) rfl (Nat.le_of_ble_eq_true rfl) dL_law_465 (fun M2 v1 _ => ?_))
  refine zv_rload_n dL_law_468 2 rfl ?_
  refine zv_aload_n dL_law_469 3 rfl ?_
  refine zv_iload_n dL_law_470 0 rfl ?_
  refine zv_iconst (z := 1) dL_law_471 ?_
  refine zv_iadd dL_law_472 ?_
  refine zv_sld hX (by omega) ha1 dL_law_473 ?_
  refine (zv_callVi [iv a1] (c_X11_shore κ.2.1 hw 76 a1 M2 hm1) zmd_X11_shore zwI_X11_shore zwS_X11_shore zwM_RL_50 zcd_11 hm1 rfl (Nat.le_of_ble_eq_true rfl) rfl (Nat.le_of_ble_eq_true rfl) dL_law_474 (fun M4 v3 _ => ?_))
  refine zv_icmp_z (tgt := 1700) dL_law_477 (by decide) ?_
  exact zv_sub (L' := [(3, iv i3), (1, rn w 1), (2, rn w 76), (0, Value.ref b)]) [0, 1, 2, 3] rfl (zv_exit (fun h => hE _ h))
theorem qL_7 {i L : Nat} {M : zM} {E : zE} {a1 : Int} (hI : zInv i L M E) (h1 : zr a1) : zO (fL_7 (zKn i) a1 M) (fun M' => ∃ L' E', zInv i L' M' E') := by
  unfold fL_7
  rw [e_X10_shore, e_X11_shore]
  exact zP2_q (p_shore hI h1)
def fL_8 (k : zK) (a1 : Int) (a2 : Int) (a3 : Int) (M0 : zM) : Option zM :=
  zbd (f_X10_alone k 1 a1 a2 a3 M0) (fun M2 v1 => zbd (f_X11_alone k 76 a1 a2 a3 M2) (fun M4 v3 => zeq v1 v3 (some M4)))
theorem vL_8 {κ : zC} {w : zW} (hw : zWk w) {b Ln : Nat} {xs : Nat → Int32} (hX : zSc κ b Ln xs) (hx1 : ztag w.1 1 = 11) (hm1 : ztag w.1 76 = 12) (n0 n1 : Nat) (i3 : Int) (hi : 0 ≤ i3 ∧ i3 + 6 ≤ (Ln : Int)) (a1 : Int) (a2 : Int) (a3 : Int) (ha1 : (xs (i3 + 1).toNat).toInt = a1) (ha2 : (xs (i3 + 2).toNat).toInt = a2) (ha3 : (xs (i3 + 3).toNat).toInt = a3) (M0 : zM) (E : zM → Prop) (hE : ∀ M, E M → zB cL_law RL 4 (some .boolean) κ w (n0, n1, 1000) 1700 [(3, iv i3), (1, rn w 1), (2, rn w 76), (0, Value.ref b)] [] M) :
    zV cL_law RL 4 (some .boolean) κ w (n0, n1, 1000) 482 [(3, iv i3), (1, rn w 1), (2, rn w 76), (0, Value.ref b)] [] M0 (fL_8 w.1 a1 a2 a3 M0) E := by
  have hT := hw.1
  unfold fL_8
  refine zv_rload_n dL_law_482 1 rfl ?_
  refine zv_aload_n dL_law_483 3 rfl ?_
  refine zv_iload_n dL_law_484 0 rfl ?_
  refine zv_iconst (z := 1) dL_law_485 ?_
  refine zv_iadd dL_law_486 ?_
  refine zv_sld hX (by omega) ha1 dL_law_487 ?_
  refine zv_aload_n dL_law_488 3 rfl ?_
  refine zv_iload_n dL_law_489 0 rfl ?_
  refine zv_iconst (z := 2) dL_law_490 ?_
  refine zv_iadd dL_law_491 ?_
  refine zv_sld hX (by omega) ha2 dL_law_492 ?_
  refine zv_aload_n dL_law_493 3 rfl ?_
  refine zv_iload_n dL_law_494 0 rfl ?_
  refine zv_iconst (z := 3) dL_law_495 ?_
  refine zv_iadd dL_law_496 ?_
  refine zv_sld hX (by omega) ha3 dL_law_497 ?_
  refine (zv_callVi [iv a1, iv a2, iv a3] (c_X10_alone κ.2.1 hw 1 a1 a2 a3 M0 hx1) zmd_X10_alone zwI_X10_alone zwS_X10_alone zwM_RL_51 zcd_10 hx1 rfl (Nat.le_of_ble_eq_true rfl) rfl (Nat.le_of_ble_eq_true rfl) dL_law_498 (fun M2 v1 _ => ?_))
  refine zv_rload_n dL_law_501 2 rfl ?_
  refine zv_aload_n dL_law_502 3 rfl ?_
  refine zv_iload_n dL_law_503 0 rfl ?_
  refine zv_iconst (z := 1) dL_law_504 ?_
  refine zv_iadd dL_law_505 ?_
  refine zv_sld hX (by omega) ha1 dL_law_506 ?_
  refine zv_aload_n dL_law_507 3 rfl ?_
  refine zv_iload_n dL_law_508 0 rfl ?_
  refine zv_iconst (z := 2) dL_law_509 ?_
  refine zv_iadd dL_law_510 ?_
  refine zv_sld hX (by omega) ha2 dL_law_511 ?_
  refine zv_aload_n dL_law_512 3 rfl ?_
  refine zv_iload_n dL_law_513 0 rfl ?_
  refine zv_iconst (z := 3) dL_law_514 ?_
  refine zv_iadd dL_law_515 ?_
  refine zv_sld hX (by omega) ha3 dL_law_516 ?_
  refine (zv_callVi [iv a1, iv a2, iv a3] (c_X11_alone κ.2.1 hw 76 a1 a2 a3 M2 hm1) zmd_X11_alone zwI_X11_alone zwS_X11_alone zwM_RL_54 zcd_11 hm1 rfl (Nat.le_of_ble_eq_true rfl) rfl (Nat.le_of_ble_eq_true rfl) dL_law_517 (fun M4 v3 _ => ?_))
  refine zv_icmp_z (tgt := 1700) dL_law_520 (by decide) ?_
  exact zv_sub (L' := [(3, iv i3), (1, rn w 1), (2, rn w 76), (0, Value.ref b)]) [0, 1, 2, 3] rfl (zv_exit (fun h => hE _ h))
theorem qL_8 {i L : Nat} {M : zM} {E : zE} {a1 a2 a3 : Int} (hI : zInv i L M E) (h1 : zr a1) (h2 : zr a2) (h3 : zr a3) : zO (fL_8 (zKn i) a1 a2 a3 M) (fun M' => ∃ L' E', zInv i L' M' E') := by
  unfold fL_8
  rw [e_X10_alone, e_X11_alone]
  exact zP2_q (p_alone hI h1 h2 h3)
def fL_9 (k : zK) (a1 : Int) (a2 : Int) (a3 : Int) (a4 : Int) (M0 : zM) : Option zM :=
  zbd (f_X10_lived k 1 a1 a2 a3 a4 M0) (fun M2 v1 => zbd (f_X11_lived k 76 a1 a2 a3 a4 M2) (fun M4 v3 => zeq v1 v3 (some M4)))
theorem vL_9 {κ : zC} {w : zW} (hw : zWk w) {b Ln : Nat} {xs : Nat → Int32} (hX : zSc κ b Ln xs) (hx1 : ztag w.1 1 = 11) (hm1 : ztag w.1 76 = 12) (n0 n1 : Nat) (i3 : Int) (hi : 0 ≤ i3 ∧ i3 + 6 ≤ (Ln : Int)) (a1 : Int) (a2 : Int) (a3 : Int) (a4 : Int) (ha1 : (xs (i3 + 1).toNat).toInt = a1) (ha2 : (xs (i3 + 2).toNat).toInt = a2) (ha3 : (xs (i3 + 3).toNat).toInt = a3) (ha4 : (xs (i3 + 4).toNat).toInt = a4) (M0 : zM) (E : zM → Prop) (hE : ∀ M, E M → zB cL_law RL 4 (some .boolean) κ w (n0, n1, 1000) 1700 [(3, iv i3), (1, rn w 1), (2, rn w 76), (0, Value.ref b)] [] M) :
    zV cL_law RL 4 (some .boolean) κ w (n0, n1, 1000) 525 [(3, iv i3), (1, rn w 1), (2, rn w 76), (0, Value.ref b)] [] M0 (fL_9 w.1 a1 a2 a3 a4 M0) E := by
  have hT := hw.1
  unfold fL_9
  refine zv_rload_n dL_law_525 1 rfl ?_
  refine zv_aload_n dL_law_526 3 rfl ?_
  refine zv_iload_n dL_law_527 0 rfl ?_
  refine zv_iconst (z := 1) dL_law_528 ?_
  refine zv_iadd dL_law_529 ?_
  refine zv_sld hX (by omega) ha1 dL_law_530 ?_
  refine zv_aload_n dL_law_531 3 rfl ?_
  refine zv_iload_n dL_law_532 0 rfl ?_
  refine zv_iconst (z := 2) dL_law_533 ?_
  refine zv_iadd dL_law_534 ?_
  refine zv_sld hX (by omega) ha2 dL_law_535 ?_
  refine zv_aload_n dL_law_536 3 rfl ?_
  refine zv_iload_n dL_law_537 0 rfl ?_
  refine zv_iconst (z := 3) dL_law_538 ?_
  refine zv_iadd dL_law_539 ?_
  refine zv_sld hX (by omega) ha3 dL_law_540 ?_
  refine zv_aload_n dL_law_541 3 rfl ?_
  refine zv_iload_n dL_law_542 0 rfl ?_
  refine zv_iconst (z := 4) dL_law_543 ?_
  refine zv_iadd dL_law_544 ?_
  refine zv_sld hX (by omega) ha4 dL_law_545 ?_
  refine (zv_callVl [iv a1, iv a2, iv a3, iv a4] (c_X10_lived κ.2.1 hw 1 a1 a2 a3 a4 M0 hx1) zmd_X10_lived zwI_X10_lived zwS_X10_lived zwM_RL_55 zcd_10 hx1 rfl (Nat.le_of_ble_eq_true rfl) rfl (Nat.le_of_ble_eq_true rfl) dL_law_546 (fun M2 v1 _ => ?_))
  refine zv_rload_n dL_law_549 2 rfl ?_
  refine zv_aload_n dL_law_550 3 rfl ?_
  refine zv_iload_n dL_law_551 0 rfl ?_
  refine zv_iconst (z := 1) dL_law_552 ?_
  refine zv_iadd dL_law_553 ?_
  refine zv_sld hX (by omega) ha1 dL_law_554 ?_
  refine zv_aload_n dL_law_555 3 rfl ?_
  refine zv_iload_n dL_law_556 0 rfl ?_
  refine zv_iconst (z := 2) dL_law_557 ?_
  refine zv_iadd dL_law_558 ?_
  refine zv_sld hX (by omega) ha2 dL_law_559 ?_
  refine zv_aload_n dL_law_560 3 rfl ?_
  refine zv_iload_n dL_law_561 0 rfl ?_
  refine zv_iconst (z := 3) dL_law_562 ?_
  refine zv_iadd dL_law_563 ?_
  refine zv_sld hX (by omega) ha3 dL_law_564 ?_
  refine zv_aload_n dL_law_565 3 rfl ?_
  refine zv_iload_n dL_law_566 0 rfl ?_
  refine zv_iconst (z := 4) dL_law_567 ?_
  refine zv_iadd dL_law_568 ?_
  refine zv_sld hX (by omega) ha4 dL_law_569 ?_
  refine (zv_callVl [iv a1, iv a2, iv a3, iv a4] (c_X11_lived κ.2.1 hw 76 a1 a2 a3 a4 M2 hm1) zmd_X11_lived zwI_X11_lived zwS_X11_lived zwM_RL_59 zcd_11 hm1 rfl (Nat.le_of_ble_eq_true rfl) rfl (Nat.le_of_ble_eq_true rfl) dL_law_570 (fun M4 v3 _ => ?_))
  refine zv_lcmp_z (tgt := 1700) dL_law_573 dL_law_574 (by decide) ?_
  exact zv_sub (L' := [(3, iv i3), (1, rn w 1), (2, rn w 76), (0, Value.ref b)]) [0, 1, 2, 3] rfl (zv_exit (fun h => hE _ h))
theorem qL_9 {i L : Nat} {M : zM} {E : zE} {a1 a2 a3 a4 : Int} (hI : zInv i L M E) (h1 : zr a1) (h2 : zr a2) (h3 : zr a3) (h4 : zr a4) : zO (fL_9 (zKn i) a1 a2 a3 a4 M) (fun M' => ∃ L' E', zInv i L' M' E') := by
  unfold fL_9
  rw [e_X10_lived, e_X11_lived]
  exact zP2_q (p_lived hI h1 h2 h3 h4)
def fL_10 (k : zK) (a1 : Int) (a2 : Int) (M0 : zM) : Option zM :=
  zb1 (zbr a2 0 (a2 = 0) (some (0)) (some (1))) (fun x1 => zbd (f_X10_dry k 1 a1 x1 M0) (fun M3 v2 => zb1 (zbr a2 0 (a2 = 0) (some (0)) (some (1))) (fun x4 => zbd (f_X11_dry k 76 a1 x4 M3) (fun M6 v5 => zeq v2 v5 (some M6)))))
theorem vL_10 {κ : zC} {w : zW} (hw : zWk w) {b Ln : Nat} {xs : Nat → Int32} (hX : zSc κ b Ln xs) (hx1 : ztag w.1 1 = 11) (hm1 : ztag w.1 76 = 12) (n0 n1 : Nat) (i3 : Int) (hi : 0 ≤ i3 ∧ i3 + 6 ≤ (Ln : Int)) (a1 : Int) (a2 : Int) (ha1 : (xs (i3 + 1).toNat).toInt = a1) (ha2 : (xs (i3 + 2).toNat).toInt = a2) (M0 : zM) (E : zM → Prop) (hE : ∀ M, E M → zB cL_law RL 4 (some .boolean) κ w (n0, n1, 1000) 1700 [(3, iv i3), (1, rn w 1), (2, rn w 76), (0, Value.ref b)] [] M) :
    zV cL_law RL 4 (some .boolean) κ w (n0, n1, 1000) 579 [(3, iv i3), (1, rn w 1), (2, rn w 76), (0, Value.ref b)] [] M0 (fL_10 w.1 a1 a2 M0) E := by
  have hT := hw.1
  unfold fL_10
  refine zv_rload_n dL_law_579 1 rfl ?_
  refine zv_aload_n dL_law_580 3 rfl ?_
  refine zv_iload_n dL_law_581 0 rfl ?_
  refine zv_iconst (z := 1) dL_law_582 ?_
  refine zv_iadd dL_law_583 ?_
  refine zv_sld hX (by omega) ha1 dL_law_584 ?_
  refine zv_aload_n dL_law_585 3 rfl ?_
  refine zv_iload_n dL_law_586 0 rfl ?_
  refine zv_iconst (z := 2) dL_law_587 ?_
  refine zv_iadd dL_law_588 ?_
  refine zv_sld hX (by omega) ha2 dL_law_589 ?_
  refine zv_join1 598 (fun x1 => [(3, iv i3), (1, rn w 1), (2, rn w 76), (0, Value.ref b)]) (fun x1 => [iv x1, iv a1, rn w 1]) (fun x1 => M0) ?_ (fun x1 => ?_)
  · refine zv_if_eq (tgt := 597) dL_law_590 (by decide) ?_ ?_
    · refine zv_iconst (z := 0) dL_law_597 ?_
      exact zv_sub (L' := [(3, iv i3), (1, rn w 1), (2, rn w 76), (0, Value.ref b)]) [0, 1, 2, 3] rfl (zv_exit (fun h => h))
    refine zv_iconst (z := 1) dL_law_593 ?_
    refine zv_goto (tgt := 598) dL_law_594 (by decide) ?_
    exact zv_sub (L' := [(3, iv i3), (1, rn w 1), (2, rn w 76), (0, Value.ref b)]) [0, 1, 2, 3] rfl (zv_exit (fun h => h))
  refine (zv_callVi [iv a1, iv x1] (c_X10_dry κ.2.1 hw 1 a1 x1 M0 hx1) zmd_X10_dry zwI_X10_dry zwS_X10_dry zwM_RL_60 zcd_10 hx1 rfl (Nat.le_of_ble_eq_true rfl) rfl (Nat.le_of_ble_eq_true rfl) dL_law_598 (fun M3 v2 _ => ?_))
  refine zv_rload_n dL_law_601 2 rfl ?_
  refine zv_aload_n dL_law_602 3 rfl ?_
  refine zv_iload_n dL_law_603 0 rfl ?_
  refine zv_iconst (z := 1) dL_law_604 ?_
  refine zv_iadd dL_law_605 ?_
  refine zv_sld hX (by omega) ha1 dL_law_606 ?_
  refine zv_aload_n dL_law_607 3 rfl ?_
  refine zv_iload_n dL_law_608 0 rfl ?_
  refine zv_iconst (z := 2) dL_law_609 ?_
  refine zv_iadd dL_law_610 ?_
  refine zv_sld hX (by omega) ha2 dL_law_611 ?_
  refine zv_join1 620 (fun x4 => [(3, iv i3), (1, rn w 1), (2, rn w 76), (0, Value.ref b)]) (fun x4 => [iv x4, iv a1, rn w 76, iv v2]) (fun x4 => M3) ?_ (fun x4 => ?_)
  · refine zv_if_eq (tgt := 619) dL_law_612 (by decide) ?_ ?_
    · refine zv_iconst (z := 0) dL_law_619 ?_
      exact zv_sub (L' := [(3, iv i3), (1, rn w 1), (2, rn w 76), (0, Value.ref b)]) [0, 1, 2, 3] rfl (zv_exit (fun h => h))
    refine zv_iconst (z := 1) dL_law_615 ?_
    refine zv_goto (tgt := 620) dL_law_616 (by decide) ?_
    exact zv_sub (L' := [(3, iv i3), (1, rn w 1), (2, rn w 76), (0, Value.ref b)]) [0, 1, 2, 3] rfl (zv_exit (fun h => h))
  refine (zv_callVi [iv a1, iv x4] (c_X11_dry κ.2.1 hw 76 a1 x4 M3 hm1) zmd_X11_dry zwI_X11_dry zwS_X11_dry zwM_RL_64 zcd_11 hm1 rfl (Nat.le_of_ble_eq_true rfl) rfl (Nat.le_of_ble_eq_true rfl) dL_law_620 (fun M6 v5 _ => ?_))
  refine zv_icmp_z (tgt := 1700) dL_law_623 (by decide) ?_
  exact zv_sub (L' := [(3, iv i3), (1, rn w 1), (2, rn w 76), (0, Value.ref b)]) [0, 1, 2, 3] rfl (zv_exit (fun h => hE _ h))
theorem qL_10 {i L : Nat} {M : zM} {E : zE} {a1 a2 : Int} (hI : zInv i L M E) (h1 : zr a1) (h2 : zr a2) : zO (fL_10 (zKn i) a1 a2 M) (fun M' => ∃ L' E', zInv i L' M' E') := by
  unfold fL_10
  simp only [zflag h2, zb1_s]
  rw [e_X10_dry, e_X11_dry]
  exact zP2_q (p_dry hI h1 zflag01)
def fL_11 (k : zK) (a1 : Int) (a2 : Int) (M0 : zM) : Option zM :=
  zb1 (f_X10_learnt k 1 a1 a2 M0) (fun v1 => zbd (f_X11_learnt k 76 a1 a2 M0) (fun M4 v3 => zeq v1 v3 (some M4)))
theorem vL_11 {κ : zC} {w : zW} (hw : zWk w) {b Ln : Nat} {xs : Nat → Int32} (hX : zSc κ b Ln xs) (hx1 : ztag w.1 1 = 11) (hm1 : ztag w.1 76 = 12) (n0 n1 : Nat) (i3 : Int) (hi : 0 ≤ i3 ∧ i3 + 6 ≤ (Ln : Int)) (a1 : Int) (a2 : Int) (ha1 : (xs (i3 + 1).toNat).toInt = a1) (ha2 : (xs (i3 + 2).toNat).toInt = a2) (M0 : zM) (E : zM → Prop) (hE : ∀ M, E M → zB cL_law RL 4 (some .boolean) κ w (n0, n1, 1000) 1700 [(3, iv i3), (1, rn w 1), (2, rn w 76), (0, Value.ref b)] [] M) :
    zV cL_law RL 4 (some .boolean) κ w (n0, n1, 1000) 628 [(3, iv i3), (1, rn w 1), (2, rn w 76), (0, Value.ref b)] [] M0 (fL_11 w.1 a1 a2 M0) E := by
  have hT := hw.1
  unfold fL_11
  refine zv_rload_n dL_law_628 1 rfl ?_
  refine zv_aload_n dL_law_629 3 rfl ?_
  refine zv_iload_n dL_law_630 0 rfl ?_
  refine zv_iconst (z := 1) dL_law_631 ?_
  refine zv_iadd dL_law_632 ?_
  refine zv_sld hX (by omega) ha1 dL_law_633 ?_
  refine zv_aload_n dL_law_634 3 rfl ?_
  refine zv_iload_n dL_law_635 0 rfl ?_
  refine zv_iconst (z := 2) dL_law_636 ?_
  refine zv_iadd dL_law_637 ?_
  refine zv_sld hX (by omega) ha2 dL_law_638 ?_
  refine zv_pc (zv_callVi [iv a1, iv a2] (c_X10_learnt κ.2.1 hw 1 a1 a2 M0 hx1) zmd_X10_learnt zwI_X10_learnt zwS_X10_learnt zwM_RL_65 zcd_10 hx1 rfl (Nat.le_of_ble_eq_true rfl) rfl (Nat.le_of_ble_eq_true rfl) dL_law_639 (fun mh2 v1 h2 => ?_))
  obtain rfl := zpuE h2
  refine zv_rload_n dL_law_642 2 rfl ?_
  refine zv_aload_n dL_law_643 3 rfl ?_
  refine zv_iload_n dL_law_644 0 rfl ?_
  refine zv_iconst (z := 1) dL_law_645 ?_
  refine zv_iadd dL_law_646 ?_
  refine zv_sld hX (by omega) ha1 dL_law_647 ?_
  refine zv_aload_n dL_law_648 3 rfl ?_
  refine zv_iload_n dL_law_649 0 rfl ?_
  refine zv_iconst (z := 2) dL_law_650 ?_
  refine zv_iadd dL_law_651 ?_
  refine zv_sld hX (by omega) ha2 dL_law_652 ?_
  refine (zv_callVi [iv a1, iv a2] (c_X11_learnt κ.2.1 hw 76 a1 a2 M0 hm1) zmd_X11_learnt zwI_X11_learnt zwS_X11_learnt zwM_RL_68 zcd_11 hm1 rfl (Nat.le_of_ble_eq_true rfl) rfl (Nat.le_of_ble_eq_true rfl) dL_law_653 (fun M4 v3 _ => ?_))
  refine zv_icmp_z (tgt := 1700) dL_law_656 (by decide) ?_
  exact zv_sub (L' := [(3, iv i3), (1, rn w 1), (2, rn w 76), (0, Value.ref b)]) [0, 1, 2, 3] rfl (zv_exit (fun h => hE _ h))
theorem qL_11 {i L : Nat} {M : zM} {E : zE} {a1 a2 : Int} (hI : zInv i L M E) (h1 : zr a1) (h2 : zr a2) : zO (fL_11 (zKn i) a1 a2 M) (fun M' => ∃ L' E', zInv i L' M' E') := by
  unfold fL_11
  rw [e_X10_learnt, e_X11_learnt]
  exact zP1_q (p_learnt hI h1 h2)
def fL_12 (k : zK) (a1 : Int) (M0 : zM) : Option zM :=
  zb1 (f_X10_tried k 1 a1 M0) (fun v1 => zbd (f_X11_tried k 76 a1 M0) (fun M4 v3 => zeq v1 v3 (some M4)))
theorem vL_12 {κ : zC} {w : zW} (hw : zWk w) {b Ln : Nat} {xs : Nat → Int32} (hX : zSc κ b Ln xs) (hx1 : ztag w.1 1 = 11) (hm1 : ztag w.1 76 = 12) (n0 n1 : Nat) (i3 : Int) (hi : 0 ≤ i3 ∧ i3 + 6 ≤ (Ln : Int)) (a1 : Int) (ha1 : (xs (i3 + 1).toNat).toInt = a1) (M0 : zM) (E : zM → Prop) (hE : ∀ M, E M → zB cL_law RL 4 (some .boolean) κ w (n0, n1, 1000) 1700 [(3, iv i3), (1, rn w 1), (2, rn w 76), (0, Value.ref b)] [] M) :
    zV cL_law RL 4 (some .boolean) κ w (n0, n1, 1000) 661 [(3, iv i3), (1, rn w 1), (2, rn w 76), (0, Value.ref b)] [] M0 (fL_12 w.1 a1 M0) E := by
  have hT := hw.1
  unfold fL_12
  refine zv_rload_n dL_law_661 1 rfl ?_
  refine zv_aload_n dL_law_662 3 rfl ?_
  refine zv_iload_n dL_law_663 0 rfl ?_
  refine zv_iconst (z := 1) dL_law_664 ?_
  refine zv_iadd dL_law_665 ?_
  refine zv_sld hX (by omega) ha1 dL_law_666 ?_
  refine zv_pc (zv_callVi [iv a1] (c_X10_tried κ.2.1 hw 1 a1 M0 hx1) zmd_X10_tried zwI_X10_tried zwS_X10_tried zwM_RL_69 zcd_10 hx1 rfl (Nat.le_of_ble_eq_true rfl) rfl (Nat.le_of_ble_eq_true rfl) dL_law_667 (fun mh2 v1 h2 => ?_))
  obtain rfl := zpuE h2
  refine zv_rload_n dL_law_670 2 rfl ?_
  refine zv_aload_n dL_law_671 3 rfl ?_
  refine zv_iload_n dL_law_672 0 rfl ?_
  refine zv_iconst (z := 1) dL_law_673 ?_
  refine zv_iadd dL_law_674 ?_
  refine zv_sld hX (by omega) ha1 dL_law_675 ?_
  refine (zv_callVi [iv a1] (c_X11_tried κ.2.1 hw 76 a1 M0 hm1) zmd_X11_tried zwI_X11_tried zwS_X11_tried zwM_RL_72 zcd_11 hm1 rfl (Nat.le_of_ble_eq_true rfl) rfl (Nat.le_of_ble_eq_true rfl) dL_law_676 (fun M4 v3 _ => ?_))
  refine zv_icmp_z (tgt := 1700) dL_law_679 (by decide) ?_
  exact zv_sub (L' := [(3, iv i3), (1, rn w 1), (2, rn w 76), (0, Value.ref b)]) [0, 1, 2, 3] rfl (zv_exit (fun h => hE _ h))
theorem qL_12 {i L : Nat} {M : zM} {E : zE} {a1 : Int} (hI : zInv i L M E) (h1 : zr a1) : zO (fL_12 (zKn i) a1 M) (fun M' => ∃ L' E', zInv i L' M' E') := by
  unfold fL_12
  rw [e_X10_tried, e_X11_tried]
  exact zP1_q (p_tried hI h1)
def fL_13 (k : zK) (a1 : Int) (a2 : Int) (M0 : zM) : Option zM :=
  zbd (f_X10_bucket k 1 a1 a2 M0) (fun M2 v1 => zbd (f_X11_bucket k 76 a1 a2 M2) (fun M4 v3 => zeq v1 v3 (some M4)))
theorem vL_13 {κ : zC} {w : zW} (hw : zWk w) {b Ln : Nat} {xs : Nat → Int32} (hX : zSc κ b Ln xs) (hx1 : ztag w.1 1 = 11) (hm1 : ztag w.1 76 = 12) (n0 n1 : Nat) (i3 : Int) (hi : 0 ≤ i3 ∧ i3 + 6 ≤ (Ln : Int)) (a1 : Int) (a2 : Int) (ha1 : (xs (i3 + 1).toNat).toInt = a1) (ha2 : (xs (i3 + 2).toNat).toInt = a2) (M0 : zM) (E : zM → Prop) (hE : ∀ M, E M → zB cL_law RL 4 (some .boolean) κ w (n0, n1, 1000) 1700 [(3, iv i3), (1, rn w 1), (2, rn w 76), (0, Value.ref b)] [] M) :
    zV cL_law RL 4 (some .boolean) κ w (n0, n1, 1000) 684 [(3, iv i3), (1, rn w 1), (2, rn w 76), (0, Value.ref b)] [] M0 (fL_13 w.1 a1 a2 M0) E := by
  have hT := hw.1
  unfold fL_13
  refine zv_rload_n dL_law_684 1 rfl ?_
  refine zv_aload_n dL_law_685 3 rfl ?_
  refine zv_iload_n dL_law_686 0 rfl ?_
  refine zv_iconst (z := 1) dL_law_687 ?_
  refine zv_iadd dL_law_688 ?_
  refine zv_sld hX (by omega) ha1 dL_law_689 ?_
  refine zv_aload_n dL_law_690 3 rfl ?_
  refine zv_iload_n dL_law_691 0 rfl ?_
  refine zv_iconst (z := 2) dL_law_692 ?_
  refine zv_iadd dL_law_693 ?_
  refine zv_sld hX (by omega) ha2 dL_law_694 ?_
  refine (zv_callVi [iv a1, iv a2] (c_X10_bucket κ.2.1 hw 1 a1 a2 M0 hx1) zmd_X10_bucket zwI_X10_bucket zwS_X10_bucket zwM_RL_73 zcd_10 hx1 rfl (Nat.le_of_ble_eq_true rfl) rfl (Nat.le_of_ble_eq_true rfl) dL_law_695 (fun M2 v1 _ => ?_))
  refine zv_rload_n dL_law_698 2 rfl ?_
  refine zv_aload_n dL_law_699 3 rfl ?_
  refine zv_iload_n dL_law_700 0 rfl ?_
  refine zv_iconst (z := 1) dL_law_701 ?_
  refine zv_iadd dL_law_702 ?_
  refine zv_sld hX (by omega) ha1 dL_law_703 ?_
  refine zv_aload_n dL_law_704 3 rfl ?_
  refine zv_iload_n dL_law_705 0 rfl ?_
  refine zv_iconst (z := 2) dL_law_706 ?_
  refine zv_iadd dL_law_707 ?_
  refine zv_sld hX (by omega) ha2 dL_law_708 ?_
  refine (zv_callVi [iv a1, iv a2] (c_X11_bucket κ.2.1 hw 76 a1 a2 M2 hm1) zmd_X11_bucket zwI_X11_bucket zwS_X11_bucket zwM_RL_76 zcd_11 hm1 rfl (Nat.le_of_ble_eq_true rfl) rfl (Nat.le_of_ble_eq_true rfl) dL_law_709 (fun M4 v3 _ => ?_))
  refine zv_icmp_z (tgt := 1700) dL_law_712 (by decide) ?_
  exact zv_sub (L' := [(3, iv i3), (1, rn w 1), (2, rn w 76), (0, Value.ref b)]) [0, 1, 2, 3] rfl (zv_exit (fun h => hE _ h))
theorem qL_13 {i L : Nat} {M : zM} {E : zE} {a1 a2 : Int} (hI : zInv i L M E) (h1 : zr a1) (h2 : zr a2) : zO (fL_13 (zKn i) a1 a2 M) (fun M' => ∃ L' E', zInv i L' M' E') := by
  unfold fL_13
  rw [e_X10_bucket, e_X11_bucket]
  exact zP2_q (p_bucket hI h1 h2)
def fL_14 (k : zK) (a1 : Int) (a2 : Int) (a3 : Int) (M0 : zM) : Option zM :=
  zbd (f_X10_left k 1 a1 a2 a3 M0) (fun M2 v1 => zbd (f_X11_left k 76 a1 a2 a3 M2) (fun M4 v3 => zeq v1 v3 (some M4)))
theorem vL_14 {κ : zC} {w : zW} (hw : zWk w) {b Ln : Nat} {xs : Nat → Int32} (hX : zSc κ b Ln xs) (hx1 : ztag w.1 1 = 11) (hm1 : ztag w.1 76 = 12) (n0 n1 : Nat) (i3 : Int) (hi : 0 ≤ i3 ∧ i3 + 6 ≤ (Ln : Int)) (a1 : Int) (a2 : Int) (a3 : Int) (ha1 : (xs (i3 + 1).toNat).toInt = a1) (ha2 : (xs (i3 + 2).toNat).toInt = a2) (ha3 : (xs (i3 + 3).toNat).toInt = a3) (M0 : zM) (E : zM → Prop) (hE : ∀ M, E M → zB cL_law RL 4 (some .boolean) κ w (n0, n1, 1000) 1700 [(3, iv i3), (1, rn w 1), (2, rn w 76), (0, Value.ref b)] [] M) :
    zV cL_law RL 4 (some .boolean) κ w (n0, n1, 1000) 717 [(3, iv i3), (1, rn w 1), (2, rn w 76), (0, Value.ref b)] [] M0 (fL_14 w.1 a1 a2 a3 M0) E := by
  have hT := hw.1
  unfold fL_14
  refine zv_rload_n dL_law_717 1 rfl ?_
  refine zv_aload_n dL_law_718 3 rfl ?_
  refine zv_iload_n dL_law_719 0 rfl ?_
  refine zv_iconst (z := 1) dL_law_720 ?_
  refine zv_iadd dL_law_721 ?_
  refine zv_sld hX (by omega) ha1 dL_law_722 ?_
  refine zv_aload_n dL_law_723 3 rfl ?_
  refine zv_iload_n dL_law_724 0 rfl ?_
  refine zv_iconst (z := 2) dL_law_725 ?_
  refine zv_iadd dL_law_726 ?_
  refine zv_sld hX (by omega) ha2 dL_law_727 ?_
  refine zv_aload_n dL_law_728 3 rfl ?_
  refine zv_iload_n dL_law_729 0 rfl ?_
  refine zv_iconst (z := 3) dL_law_730 ?_
  refine zv_iadd dL_law_731 ?_
  refine zv_sld hX (by omega) ha3 dL_law_732 ?_
  refine (zv_callVl [iv a1, iv a2, iv a3] (c_X10_left κ.2.1 hw 1 a1 a2 a3 M0 hx1) zmd_X10_left zwI_X10_left zwS_X10_left zwM_RL_77 zcd_10 hx1 rfl (Nat.le_of_ble_eq_true rfl) rfl (Nat.le_of_ble_eq_true rfl) dL_law_733 (fun M2 v1 _ => ?_))
  refine zv_rload_n dL_law_736 2 rfl ?_
  refine zv_aload_n dL_law_737 3 rfl ?_
  refine zv_iload_n dL_law_738 0 rfl ?_
  refine zv_iconst (z := 1) dL_law_739 ?_
  refine zv_iadd dL_law_740 ?_
  refine zv_sld hX (by omega) ha1 dL_law_741 ?_
  refine zv_aload_n dL_law_742 3 rfl ?_
  refine zv_iload_n dL_law_743 0 rfl ?_
  refine zv_iconst (z := 2) dL_law_744 ?_
  refine zv_iadd dL_law_745 ?_
  refine zv_sld hX (by omega) ha2 dL_law_746 ?_
  refine zv_aload_n dL_law_747 3 rfl ?_
  refine zv_iload_n dL_law_748 0 rfl ?_
  refine zv_iconst (z := 3) dL_law_749 ?_
  refine zv_iadd dL_law_750 ?_
  refine zv_sld hX (by omega) ha3 dL_law_751 ?_
  refine (zv_callVl [iv a1, iv a2, iv a3] (c_X11_left κ.2.1 hw 76 a1 a2 a3 M2 hm1) zmd_X11_left zwI_X11_left zwS_X11_left zwM_RL_81 zcd_11 hm1 rfl (Nat.le_of_ble_eq_true rfl) rfl (Nat.le_of_ble_eq_true rfl) dL_law_752 (fun M4 v3 _ => ?_))
  refine zv_lcmp_z (tgt := 1700) dL_law_755 dL_law_756 (by decide) ?_
  exact zv_sub (L' := [(3, iv i3), (1, rn w 1), (2, rn w 76), (0, Value.ref b)]) [0, 1, 2, 3] rfl (zv_exit (fun h => hE _ h))
theorem qL_14 {i L : Nat} {M : zM} {E : zE} {a1 a2 a3 : Int} (hI : zInv i L M E) (h1 : zr a1) (h2 : zr a2) (h3 : zr a3) : zO (fL_14 (zKn i) a1 a2 a3 M) (fun M' => ∃ L' E', zInv i L' M' E') := by
  unfold fL_14
  rw [e_X10_left, e_X11_left]
  exact zP2_q (p_left hI h1 h2 h3)
def fL_15 (k : zK) (a1 : Int) (a2 : Int) (a3 : Int) (a4 : Int) (M0 : zM) : Option zM :=
  zbd (f_X10_find k 1 a1 a2 a3 a4 M0) (fun M2 v1 => zbd (f_X11_find k 76 a1 a2 a3 a4 M2) (fun M4 v3 => zeq v1 v3 (some M4)))
theorem vL_15 {κ : zC} {w : zW} (hw : zWk w) {b Ln : Nat} {xs : Nat → Int32} (hX : zSc κ b Ln xs) (hx1 : ztag w.1 1 = 11) (hm1 : ztag w.1 76 = 12) (n0 n1 : Nat) (i3 : Int) (hi : 0 ≤ i3 ∧ i3 + 6 ≤ (Ln : Int)) (a1 : Int) (a2 : Int) (a3 : Int) (a4 : Int) (ha1 : (xs (i3 + 1).toNat).toInt = a1) (ha2 : (xs (i3 + 2).toNat).toInt = a2) (ha3 : (xs (i3 + 3).toNat).toInt = a3) (ha4 : (xs (i3 + 4).toNat).toInt = a4) (M0 : zM) (E : zM → Prop) (hE : ∀ M, E M → zB cL_law RL 4 (some .boolean) κ w (n0, n1, 1000) 1700 [(3, iv i3), (1, rn w 1), (2, rn w 76), (0, Value.ref b)] [] M) :
    zV cL_law RL 4 (some .boolean) κ w (n0, n1, 1000) 761 [(3, iv i3), (1, rn w 1), (2, rn w 76), (0, Value.ref b)] [] M0 (fL_15 w.1 a1 a2 a3 a4 M0) E := by
  have hT := hw.1
  unfold fL_15
  refine zv_rload_n dL_law_761 1 rfl ?_
  refine zv_aload_n dL_law_762 3 rfl ?_
  refine zv_iload_n dL_law_763 0 rfl ?_
  refine zv_iconst (z := 1) dL_law_764 ?_
  refine zv_iadd dL_law_765 ?_
  refine zv_sld hX (by omega) ha1 dL_law_766 ?_
  refine zv_aload_n dL_law_767 3 rfl ?_
  refine zv_iload_n dL_law_768 0 rfl ?_
  refine zv_iconst (z := 2) dL_law_769 ?_
  refine zv_iadd dL_law_770 ?_
  refine zv_sld hX (by omega) ha2 dL_law_771 ?_
  refine zv_aload_n dL_law_772 3 rfl ?_
  refine zv_iload_n dL_law_773 0 rfl ?_
  refine zv_iconst (z := 3) dL_law_774 ?_
  refine zv_iadd dL_law_775 ?_
  refine zv_sld hX (by omega) ha3 dL_law_776 ?_
  refine zv_aload_n dL_law_777 3 rfl ?_
  refine zv_iload_n dL_law_778 0 rfl ?_
  refine zv_iconst (z := 4) dL_law_779 ?_
  refine zv_iadd dL_law_780 ?_
  refine zv_sld hX (by omega) ha4 dL_law_781 ?_
  refine (zv_callVi [iv a1, iv a2, iv a3, iv a4] (c_X10_find κ.2.1 hw 1 a1 a2 a3 a4 M0 hx1) zmd_X10_find zwI_X10_find zwS_X10_find zwM_RL_82 zcd_10 hx1 rfl (Nat.le_of_ble_eq_true rfl) rfl (Nat.le_of_ble_eq_true rfl) dL_law_782 (fun M2 v1 _ => ?_))
  refine zv_rload_n dL_law_785 2 rfl ?_
  refine zv_aload_n dL_law_786 3 rfl ?_
  refine zv_iload_n dL_law_787 0 rfl ?_
  refine zv_iconst (z := 1) dL_law_788 ?_
  refine zv_iadd dL_law_789 ?_
  refine zv_sld hX (by omega) ha1 dL_law_790 ?_
  refine zv_aload_n dL_law_791 3 rfl ?_
  refine zv_iload_n dL_law_792 0 rfl ?_
  refine zv_iconst (z := 2) dL_law_793 ?_
  refine zv_iadd dL_law_794 ?_
  refine zv_sld hX (by omega) ha2 dL_law_795 ?_
  refine zv_aload_n dL_law_796 3 rfl ?_
  refine zv_iload_n dL_law_797 0 rfl ?_
  refine zv_iconst (z := 3) dL_law_798 ?_
  refine zv_iadd dL_law_799 ?_
  refine zv_sld hX (by omega) ha3 dL_law_800 ?_
  refine zv_aload_n dL_law_801 3 rfl ?_
  refine zv_iload_n dL_law_802 0 rfl ?_
  refine zv_iconst (z := 4) dL_law_803 ?_
  refine zv_iadd dL_law_804 ?_
  refine zv_sld hX (by omega) ha4 dL_law_805 ?_
  refine (zv_callVi [iv a1, iv a2, iv a3, iv a4] (c_X11_find κ.2.1 hw 76 a1 a2 a3 a4 M2 hm1) zmd_X11_find zwI_X11_find zwS_X11_find zwM_RL_86 zcd_11 hm1 rfl (Nat.le_of_ble_eq_true rfl) rfl (Nat.le_of_ble_eq_true rfl) dL_law_806 (fun M4 v3 _ => ?_))
  refine zv_icmp_z (tgt := 1700) dL_law_809 (by decide) ?_
  exact zv_sub (L' := [(3, iv i3), (1, rn w 1), (2, rn w 76), (0, Value.ref b)]) [0, 1, 2, 3] rfl (zv_exit (fun h => hE _ h))
theorem qL_15 {i L : Nat} {M : zM} {E : zE} {a1 a2 a3 a4 : Int} (hI : zInv i L M E) (h1 : zr a1) (h2 : zr a2) (h3 : zr a3) (h4 : zr a4) : zO (fL_15 (zKn i) a1 a2 a3 a4 M) (fun M' => ∃ L' E', zInv i L' M' E') := by
  unfold fL_15
  rw [e_X10_find, e_X11_find]
  exact zP2_q (p_find hI h1 h2 h3 h4)
def fL_16 (k : zK) (a1 : Int) (a2 : Int) (M0 : zM) : Option zM :=
  zb1 (f_X10_found k 1 a1 a2 M0) (fun v1 => zb1 (f_X11_found k 76 a1 a2 M0) (fun v3 => zeq v1 v3 (some M0)))
theorem vL_16 {κ : zC} {w : zW} (hw : zWk w) {b Ln : Nat} {xs : Nat → Int32} (hX : zSc κ b Ln xs) (hx1 : ztag w.1 1 = 11) (hm1 : ztag w.1 76 = 12) (n0 n1 : Nat) (i3 : Int) (hi : 0 ≤ i3 ∧ i3 + 6 ≤ (Ln : Int)) (a1 : Int) (a2 : Int) (ha1 : (xs (i3 + 1).toNat).toInt = a1) (ha2 : (xs (i3 + 2).toNat).toInt = a2) (M0 : zM) (E : zM → Prop) (hE : ∀ M, E M → zB cL_law RL 4 (some .boolean) κ w (n0, n1, 1000) 1700 [(3, iv i3), (1, rn w 1), (2, rn w 76), (0, Value.ref b)] [] M) :
    zV cL_law RL 4 (some .boolean) κ w (n0, n1, 1000) 814 [(3, iv i3), (1, rn w 1), (2, rn w 76), (0, Value.ref b)] [] M0 (fL_16 w.1 a1 a2 M0) E := by
  have hT := hw.1
  unfold fL_16
  refine zv_rload_n dL_law_814 1 rfl ?_
  refine zv_aload_n dL_law_815 3 rfl ?_
  refine zv_iload_n dL_law_816 0 rfl ?_
  refine zv_iconst (z := 1) dL_law_817 ?_
  refine zv_iadd dL_law_818 ?_
  refine zv_sld hX (by omega) ha1 dL_law_819 ?_
  refine zv_aload_n dL_law_820 3 rfl ?_
  refine zv_iload_n dL_law_821 0 rfl ?_
  refine zv_iconst (z := 2) dL_law_822 ?_
  refine zv_iadd dL_law_823 ?_
  refine zv_sld hX (by omega) ha2 dL_law_824 ?_
  refine zv_pc (zv_callVi [iv a1, iv a2] (c_X10_found κ.2.1 hw 1 a1 a2 M0 hx1) zmd_X10_found zwI_X10_found zwS_X10_found zwM_RL_87 zcd_10 hx1 rfl (Nat.le_of_ble_eq_true rfl) rfl (Nat.le_of_ble_eq_true rfl) dL_law_825 (fun mh2 v1 h2 => ?_))
  obtain rfl := zpuE h2
  refine zv_rload_n dL_law_828 2 rfl ?_
  refine zv_aload_n dL_law_829 3 rfl ?_
  refine zv_iload_n dL_law_830 0 rfl ?_
  refine zv_iconst (z := 1) dL_law_831 ?_
  refine zv_iadd dL_law_832 ?_
  refine zv_sld hX (by omega) ha1 dL_law_833 ?_
  refine zv_aload_n dL_law_834 3 rfl ?_
  refine zv_iload_n dL_law_835 0 rfl ?_
  refine zv_iconst (z := 2) dL_law_836 ?_
  refine zv_iadd dL_law_837 ?_
  refine zv_sld hX (by omega) ha2 dL_law_838 ?_
  refine zv_pc (zv_callVi [iv a1, iv a2] (c_X11_found κ.2.1 hw 76 a1 a2 M0 hm1) zmd_X11_found zwI_X11_found zwS_X11_found zwM_RL_90 zcd_11 hm1 rfl (Nat.le_of_ble_eq_true rfl) rfl (Nat.le_of_ble_eq_true rfl) dL_law_839 (fun mh4 v3 h4 => ?_))
  obtain rfl := zpuE h4
  refine zv_icmp_z (tgt := 1700) dL_law_842 (by decide) ?_
  exact zv_sub (L' := [(3, iv i3), (1, rn w 1), (2, rn w 76), (0, Value.ref b)]) [0, 1, 2, 3] rfl (zv_exit (fun h => hE _ h))
theorem qL_16 {i L : Nat} {M : zM} {E : zE} {a1 a2 : Int} (hI : zInv i L M E) (h1 : zr a1) (h2 : zr a2) : zO (fL_16 (zKn i) a1 a2 M) (fun M' => ∃ L' E', zInv i L' M' E') := by
  unfold fL_16
  rw [e_X10_found, e_X11_found]
  exact zP0_q hI (p_found hI h1 h2)
def fL_17 (k : zK) (a1 : Int) (a2 : Int) (M0 : zM) : Option zM :=
  zbd (f_X10_carried k 1 a1 a2 M0) (fun M2 v1 => zbd (f_X11_carried k 76 a1 a2 M2) (fun M4 v3 => zeq v1 v3 (some M4)))
theorem vL_17 {κ : zC} {w : zW} (hw : zWk w) {b Ln : Nat} {xs : Nat → Int32} (hX : zSc κ b Ln xs) (hx1 : ztag w.1 1 = 11) (hm1 : ztag w.1 76 = 12) (n0 n1 : Nat) (i3 : Int) (hi : 0 ≤ i3 ∧ i3 + 6 ≤ (Ln : Int)) (a1 : Int) (a2 : Int) (ha1 : (xs (i3 + 1).toNat).toInt = a1) (ha2 : (xs (i3 + 2).toNat).toInt = a2) (M0 : zM) (E : zM → Prop) (hE : ∀ M, E M → zB cL_law RL 4 (some .boolean) κ w (n0, n1, 1000) 1700 [(3, iv i3), (1, rn w 1), (2, rn w 76), (0, Value.ref b)] [] M) :
    zV cL_law RL 4 (some .boolean) κ w (n0, n1, 1000) 847 [(3, iv i3), (1, rn w 1), (2, rn w 76), (0, Value.ref b)] [] M0 (fL_17 w.1 a1 a2 M0) E := by
  have hT := hw.1
  unfold fL_17
  refine zv_rload_n dL_law_847 1 rfl ?_
  refine zv_aload_n dL_law_848 3 rfl ?_
  refine zv_iload_n dL_law_849 0 rfl ?_
  refine zv_iconst (z := 1) dL_law_850 ?_
  refine zv_iadd dL_law_851 ?_
  refine zv_sld hX (by omega) ha1 dL_law_852 ?_
  refine zv_aload_n dL_law_853 3 rfl ?_
  refine zv_iload_n dL_law_854 0 rfl ?_
  refine zv_iconst (z := 2) dL_law_855 ?_
  refine zv_iadd dL_law_856 ?_
  refine zv_sld hX (by omega) ha2 dL_law_857 ?_
  refine (zv_callVl [iv a1, iv a2] (c_X10_carried κ.2.1 hw 1 a1 a2 M0 hx1) zmd_X10_carried zwI_X10_carried zwS_X10_carried zwM_RL_91 zcd_10 hx1 rfl (Nat.le_of_ble_eq_true rfl) rfl (Nat.le_of_ble_eq_true rfl) dL_law_858 (fun M2 v1 _ => ?_))
  refine zv_rload_n dL_law_861 2 rfl ?_
  refine zv_aload_n dL_law_862 3 rfl ?_
  refine zv_iload_n dL_law_863 0 rfl ?_
  refine zv_iconst (z := 1) dL_law_864 ?_
  refine zv_iadd dL_law_865 ?_
  refine zv_sld hX (by omega) ha1 dL_law_866 ?_
  refine zv_aload_n dL_law_867 3 rfl ?_
  refine zv_iload_n dL_law_868 0 rfl ?_
  refine zv_iconst (z := 2) dL_law_869 ?_
  refine zv_iadd dL_law_870 ?_
  refine zv_sld hX (by omega) ha2 dL_law_871 ?_
  refine (zv_callVl [iv a1, iv a2] (c_X11_carried κ.2.1 hw 76 a1 a2 M2 hm1) zmd_X11_carried zwI_X11_carried zwS_X11_carried zwM_RL_95 zcd_11 hm1 rfl (Nat.le_of_ble_eq_true rfl) rfl (Nat.le_of_ble_eq_true rfl) dL_law_872 (fun M4 v3 _ => ?_))
  refine zv_lcmp_z (tgt := 1700) dL_law_875 dL_law_876 (by decide) ?_
  exact zv_sub (L' := [(3, iv i3), (1, rn w 1), (2, rn w 76), (0, Value.ref b)]) [0, 1, 2, 3] rfl (zv_exit (fun h => hE _ h))
theorem qL_17 {i L : Nat} {M : zM} {E : zE} {a1 a2 : Int} (hI : zInv i L M E) (h1 : zr a1) (h2 : zr a2) : zO (fL_17 (zKn i) a1 a2 M) (fun M' => ∃ L' E', zInv i L' M' E') := by
  unfold fL_17
  rw [e_X10_carried, e_X11_carried]
  exact zP2_q (p_carried hI h1 h2)
def fL_18 (k : zK) (a1 : Int) (a2 : Int) (a3 : Int) (a4 : Int) (M0 : zM) : Option zM :=
  zbd (f_X10_gone k 1 a1 a2 a3 a4 M0) (fun M2 v1 => zbd (f_X11_gone k 76 a1 a2 a3 a4 M2) (fun M4 v3 => zeq v1 v3 (some M4)))
theorem vL_18 {κ : zC} {w : zW} (hw : zWk w) {b Ln : Nat} {xs : Nat → Int32} (hX : zSc κ b Ln xs) (hx1 : ztag w.1 1 = 11) (hm1 : ztag w.1 76 = 12) (n0 n1 : Nat) (i3 : Int) (hi : 0 ≤ i3 ∧ i3 + 6 ≤ (Ln : Int)) (a1 : Int) (a2 : Int) (a3 : Int) (a4 : Int) (ha1 : (xs (i3 + 1).toNat).toInt = a1) (ha2 : (xs (i3 + 2).toNat).toInt = a2) (ha3 : (xs (i3 + 3).toNat).toInt = a3) (ha4 : (xs (i3 + 4).toNat).toInt = a4) (M0 : zM) (E : zM → Prop) (hE : ∀ M, E M → zB cL_law RL 4 (some .boolean) κ w (n0, n1, 1000) 1700 [(3, iv i3), (1, rn w 1), (2, rn w 76), (0, Value.ref b)] [] M) :
    zV cL_law RL 4 (some .boolean) κ w (n0, n1, 1000) 881 [(3, iv i3), (1, rn w 1), (2, rn w 76), (0, Value.ref b)] [] M0 (fL_18 w.1 a1 a2 a3 a4 M0) E := by
  have hT := hw.1
  unfold fL_18
  refine zv_rload_n dL_law_881 1 rfl ?_
  refine zv_aload_n dL_law_882 3 rfl ?_
  refine zv_iload_n dL_law_883 0 rfl ?_
  refine zv_iconst (z := 1) dL_law_884 ?_
  refine zv_iadd dL_law_885 ?_
  refine zv_sld hX (by omega) ha1 dL_law_886 ?_
  refine zv_aload_n dL_law_887 3 rfl ?_
  refine zv_iload_n dL_law_888 0 rfl ?_
  refine zv_iconst (z := 2) dL_law_889 ?_
  refine zv_iadd dL_law_890 ?_
  refine zv_sld hX (by omega) ha2 dL_law_891 ?_
  refine zv_aload_n dL_law_892 3 rfl ?_
  refine zv_iload_n dL_law_893 0 rfl ?_
  refine zv_iconst (z := 3) dL_law_894 ?_
  refine zv_iadd dL_law_895 ?_
  refine zv_sld hX (by omega) ha3 dL_law_896 ?_
  refine zv_aload_n dL_law_897 3 rfl ?_
  refine zv_iload_n dL_law_898 0 rfl ?_
  refine zv_iconst (z := 4) dL_law_899 ?_
  refine zv_iadd dL_law_900 ?_
  refine zv_sld hX (by omega) ha4 dL_law_901 ?_
  refine (zv_callVi [iv a1, iv a2, iv a3, iv a4] (c_X10_gone κ.2.1 hw 1 a1 a2 a3 a4 M0 hx1) zmd_X10_gone zwI_X10_gone zwS_X10_gone zwM_RL_96 zcd_10 hx1 rfl (Nat.le_of_ble_eq_true rfl) rfl (Nat.le_of_ble_eq_true rfl) dL_law_902 (fun M2 v1 _ => ?_))
  refine zv_rload_n dL_law_905 2 rfl ?_
  refine zv_aload_n dL_law_906 3 rfl ?_
  refine zv_iload_n dL_law_907 0 rfl ?_
  refine zv_iconst (z := 1) dL_law_908 ?_
  refine zv_iadd dL_law_909 ?_
  refine zv_sld hX (by omega) ha1 dL_law_910 ?_
  refine zv_aload_n dL_law_911 3 rfl ?_
  refine zv_iload_n dL_law_912 0 rfl ?_
  refine zv_iconst (z := 2) dL_law_913 ?_
  refine zv_iadd dL_law_914 ?_
  refine zv_sld hX (by omega) ha2 dL_law_915 ?_
  refine zv_aload_n dL_law_916 3 rfl ?_
  refine zv_iload_n dL_law_917 0 rfl ?_
  refine zv_iconst (z := 3) dL_law_918 ?_
  refine zv_iadd dL_law_919 ?_
  refine zv_sld hX (by omega) ha3 dL_law_920 ?_
  refine zv_aload_n dL_law_921 3 rfl ?_
  refine zv_iload_n dL_law_922 0 rfl ?_
  refine zv_iconst (z := 4) dL_law_923 ?_
  refine zv_iadd dL_law_924 ?_
  refine zv_sld hX (by omega) ha4 dL_law_925 ?_
  refine (zv_callVi [iv a1, iv a2, iv a3, iv a4] (c_X11_gone κ.2.1 hw 76 a1 a2 a3 a4 M2 hm1) zmd_X11_gone zwI_X11_gone zwS_X11_gone zwM_RL_99 zcd_11 hm1 rfl (Nat.le_of_ble_eq_true rfl) rfl (Nat.le_of_ble_eq_true rfl) dL_law_926 (fun M4 v3 _ => ?_))
  refine zv_icmp_z (tgt := 1700) dL_law_929 (by decide) ?_
  exact zv_sub (L' := [(3, iv i3), (1, rn w 1), (2, rn w 76), (0, Value.ref b)]) [0, 1, 2, 3] rfl (zv_exit (fun h => hE _ h))
theorem qL_18 {i L : Nat} {M : zM} {E : zE} {a1 a2 a3 a4 : Int} (hI : zInv i L M E) (h1 : zr a1) (h2 : zr a2) (h3 : zr a3) (h4 : zr a4) : zO (fL_18 (zKn i) a1 a2 a3 a4 M) (fun M' => ∃ L' E', zInv i L' M' E') := by
  unfold fL_18
  rw [e_X10_gone, e_X11_gone]
  exact zP2_q (p_gone hI h1 h2 h3 h4)
def fL_19 (k : zK) (a1 : Int) (a2 : Int) (a3 : Int) (a4 : Int) (M0 : zM) : Option zM :=
  zbd (f_X10_rest k 1 a1 a2 a3 a4 M0) (fun M2 v1 => zbd (f_X11_rest k 76 a1 a2 a3 a4 M2) (fun M4 v3 => zeq v1 v3 (some M4)))
theorem vL_19 {κ : zC} {w : zW} (hw : zWk w) {b Ln : Nat} {xs : Nat → Int32} (hX : zSc κ b Ln xs) (hx1 : ztag w.1 1 = 11) (hm1 : ztag w.1 76 = 12) (n0 n1 : Nat) (i3 : Int) (hi : 0 ≤ i3 ∧ i3 + 6 ≤ (Ln : Int)) (a1 : Int) (a2 : Int) (a3 : Int) (a4 : Int) (ha1 : (xs (i3 + 1).toNat).toInt = a1) (ha2 : (xs (i3 + 2).toNat).toInt = a2) (ha3 : (xs (i3 + 3).toNat).toInt = a3) (ha4 : (xs (i3 + 4).toNat).toInt = a4) (M0 : zM) (E : zM → Prop) (hE : ∀ M, E M → zB cL_law RL 4 (some .boolean) κ w (n0, n1, 1000) 1700 [(3, iv i3), (1, rn w 1), (2, rn w 76), (0, Value.ref b)] [] M) :
    zV cL_law RL 4 (some .boolean) κ w (n0, n1, 1000) 934 [(3, iv i3), (1, rn w 1), (2, rn w 76), (0, Value.ref b)] [] M0 (fL_19 w.1 a1 a2 a3 a4 M0) E := by
  have hT := hw.1
  unfold fL_19
  refine zv_rload_n dL_law_934 1 rfl ?_
  refine zv_aload_n dL_law_935 3 rfl ?_
  refine zv_iload_n dL_law_936 0 rfl ?_
  refine zv_iconst (z := 1) dL_law_937 ?_
  refine zv_iadd dL_law_938 ?_
  refine zv_sld hX (by omega) ha1 dL_law_939 ?_
  refine zv_aload_n dL_law_940 3 rfl ?_
  refine zv_iload_n dL_law_941 0 rfl ?_
  refine zv_iconst (z := 2) dL_law_942 ?_
  refine zv_iadd dL_law_943 ?_
  refine zv_sld hX (by omega) ha2 dL_law_944 ?_
  refine zv_aload_n dL_law_945 3 rfl ?_
  refine zv_iload_n dL_law_946 0 rfl ?_
  refine zv_iconst (z := 3) dL_law_947 ?_
  refine zv_iadd dL_law_948 ?_
  refine zv_sld hX (by omega) ha3 dL_law_949 ?_
  refine zv_aload_n dL_law_950 3 rfl ?_
  refine zv_iload_n dL_law_951 0 rfl ?_
  refine zv_iconst (z := 4) dL_law_952 ?_
  refine zv_iadd dL_law_953 ?_
  refine zv_sld hX (by omega) ha4 dL_law_954 ?_
  refine (zv_callVi [iv a1, iv a2, iv a3, iv a4] (c_X10_rest κ.2.1 hw 1 a1 a2 a3 a4 M0 hx1) zmd_X10_rest zwI_X10_rest zwS_X10_rest zwM_RL_100 zcd_10 hx1 rfl (Nat.le_of_ble_eq_true rfl) rfl (Nat.le_of_ble_eq_true rfl) dL_law_955 (fun M2 v1 _ => ?_))
  refine zv_rload_n dL_law_958 2 rfl ?_
  refine zv_aload_n dL_law_959 3 rfl ?_
  refine zv_iload_n dL_law_960 0 rfl ?_
  refine zv_iconst (z := 1) dL_law_961 ?_
  refine zv_iadd dL_law_962 ?_
  refine zv_sld hX (by omega) ha1 dL_law_963 ?_
  refine zv_aload_n dL_law_964 3 rfl ?_
  refine zv_iload_n dL_law_965 0 rfl ?_
  refine zv_iconst (z := 2) dL_law_966 ?_
  refine zv_iadd dL_law_967 ?_
  refine zv_sld hX (by omega) ha2 dL_law_968 ?_
  refine zv_aload_n dL_law_969 3 rfl ?_
  refine zv_iload_n dL_law_970 0 rfl ?_
  refine zv_iconst (z := 3) dL_law_971 ?_
  refine zv_iadd dL_law_972 ?_
  refine zv_sld hX (by omega) ha3 dL_law_973 ?_
  refine zv_aload_n dL_law_974 3 rfl ?_
  refine zv_iload_n dL_law_975 0 rfl ?_
  refine zv_iconst (z := 4) dL_law_976 ?_
  refine zv_iadd dL_law_977 ?_
  refine zv_sld hX (by omega) ha4 dL_law_978 ?_
  refine (zv_callVi [iv a1, iv a2, iv a3, iv a4] (c_X11_rest κ.2.1 hw 76 a1 a2 a3 a4 M2 hm1) zmd_X11_rest zwI_X11_rest zwS_X11_rest zwM_RL_103 zcd_11 hm1 rfl (Nat.le_of_ble_eq_true rfl) rfl (Nat.le_of_ble_eq_true rfl) dL_law_979 (fun M4 v3 _ => ?_))
  refine zv_icmp_z (tgt := 1700) dL_law_982 (by decide) ?_
  exact zv_sub (L' := [(3, iv i3), (1, rn w 1), (2, rn w 76), (0, Value.ref b)]) [0, 1, 2, 3] rfl (zv_exit (fun h => hE _ h))
theorem qL_19 {i L : Nat} {M : zM} {E : zE} {a1 a2 a3 a4 : Int} (hI : zInv i L M E) (h1 : zr a1) (h2 : zr a2) (h3 : zr a3) (h4 : zr a4) : zO (fL_19 (zKn i) a1 a2 a3 a4 M) (fun M' => ∃ L' E', zInv i L' M' E') := by
  unfold fL_19
  rw [e_X10_rest, e_X11_rest]
  exact zP2_q (p_rest hI h1 h2 h3 h4)
def fL_20 (k : zK) (a1 : Int) (a2 : Int) (M0 : zM) : Option zM :=
  zb1 (zbr a2 0 (a2 = 0) (some (0)) (some (1))) (fun x1 => zbd (f_X10_mud k 1 a1 x1 M0) (fun M3 v2 => zb1 (zbr a2 0 (a2 = 0) (some (0)) (some (1))) (fun x4 => zbd (f_X11_mud k 76 a1 x4 M3) (fun M6 v5 => zeq v2 v5 (some M6)))))
theorem vL_20 {κ : zC} {w : zW} (hw : zWk w) {b Ln : Nat} {xs : Nat → Int32} (hX : zSc κ b Ln xs) (hx1 : ztag w.1 1 = 11) (hm1 : ztag w.1 76 = 12) (n0 n1 : Nat) (i3 : Int) (hi : 0 ≤ i3 ∧ i3 + 6 ≤ (Ln : Int)) (a1 : Int) (a2 : Int) (ha1 : (xs (i3 + 1).toNat).toInt = a1) (ha2 : (xs (i3 + 2).toNat).toInt = a2) (M0 : zM) (E : zM → Prop) (hE : ∀ M, E M → zB cL_law RL 4 (some .boolean) κ w (n0, n1, 1000) 1700 [(3, iv i3), (1, rn w 1), (2, rn w 76), (0, Value.ref b)] [] M) :
    zV cL_law RL 4 (some .boolean) κ w (n0, n1, 1000) 987 [(3, iv i3), (1, rn w 1), (2, rn w 76), (0, Value.ref b)] [] M0 (fL_20 w.1 a1 a2 M0) E := by
  have hT := hw.1
  unfold fL_20
  refine zv_rload_n dL_law_987 1 rfl ?_
  refine zv_aload_n dL_law_988 3 rfl ?_
  refine zv_iload_n dL_law_989 0 rfl ?_
  refine zv_iconst (z := 1) dL_law_990 ?_
  refine zv_iadd dL_law_991 ?_
  refine zv_sld hX (by omega) ha1 dL_law_992 ?_
  refine zv_aload_n dL_law_993 3 rfl ?_
  refine zv_iload_n dL_law_994 0 rfl ?_
  refine zv_iconst (z := 2) dL_law_995 ?_
  refine zv_iadd dL_law_996 ?_
  refine zv_sld hX (by omega) ha2 dL_law_997 ?_
  refine zv_join1 1006 (fun x1 => [(3, iv i3), (1, rn w 1), (2, rn w 76), (0, Value.ref b)]) (fun x1 => [iv x1, iv a1, rn w 1]) (fun x1 => M0) ?_ (fun x1 => ?_)
  · refine zv_if_eq (tgt := 1005) dL_law_998 (by decide) ?_ ?_
    · refine zv_iconst (z := 0) dL_law_1005 ?_
      exact zv_sub (L' := [(3, iv i3), (1, rn w 1), (2, rn w 76), (0, Value.ref b)]) [0, 1, 2, 3] rfl (zv_exit (fun h => h))
    refine zv_iconst (z := 1) dL_law_1001 ?_
    refine zv_goto (tgt := 1006) dL_law_1002 (by decide) ?_
    exact zv_sub (L' := [(3, iv i3), (1, rn w 1), (2, rn w 76), (0, Value.ref b)]) [0, 1, 2, 3] rfl (zv_exit (fun h => h))
  refine (zv_callVi [iv a1, iv x1] (c_X10_mud κ.2.1 hw 1 a1 x1 M0 hx1) zmd_X10_mud zwI_X10_mud zwS_X10_mud zwM_RL_104 zcd_10 hx1 rfl (Nat.le_of_ble_eq_true rfl) rfl (Nat.le_of_ble_eq_true rfl) dL_law_1006 (fun M3 v2 _ => ?_))
  refine zv_rload_n dL_law_1009 2 rfl ?_
  refine zv_aload_n dL_law_1010 3 rfl ?_
  refine zv_iload_n dL_law_1011 0 rfl ?_
  refine zv_iconst (z := 1) dL_law_1012 ?_
  refine zv_iadd dL_law_1013 ?_
  refine zv_sld hX (by omega) ha1 dL_law_1014 ?_
  refine zv_aload_n dL_law_1015 3 rfl ?_
  refine zv_iload_n dL_law_1016 0 rfl ?_
  refine zv_iconst (z := 2) dL_law_1017 ?_
  refine zv_iadd dL_law_1018 ?_
  refine zv_sld hX (by omega) ha2 dL_law_1019 ?_
  refine zv_join1 1028 (fun x4 => [(3, iv i3), (1, rn w 1), (2, rn w 76), (0, Value.ref b)]) (fun x4 => [iv x4, iv a1, rn w 76, iv v2]) (fun x4 => M3) ?_ (fun x4 => ?_)
  · refine zv_if_eq (tgt := 1027) dL_law_1020 (by decide) ?_ ?_
    · refine zv_iconst (z := 0) dL_law_1027 ?_
      exact zv_sub (L' := [(3, iv i3), (1, rn w 1), (2, rn w 76), (0, Value.ref b)]) [0, 1, 2, 3] rfl (zv_exit (fun h => h))
    refine zv_iconst (z := 1) dL_law_1023 ?_
    refine zv_goto (tgt := 1028) dL_law_1024 (by decide) ?_
    exact zv_sub (L' := [(3, iv i3), (1, rn w 1), (2, rn w 76), (0, Value.ref b)]) [0, 1, 2, 3] rfl (zv_exit (fun h => h))
  refine (zv_callVi [iv a1, iv x4] (c_X11_mud κ.2.1 hw 76 a1 x4 M3 hm1) zmd_X11_mud zwI_X11_mud zwS_X11_mud zwM_RL_107 zcd_11 hm1 rfl (Nat.le_of_ble_eq_true rfl) rfl (Nat.le_of_ble_eq_true rfl) dL_law_1028 (fun M6 v5 _ => ?_))
  refine zv_icmp_z (tgt := 1700) dL_law_1031 (by decide) ?_
  exact zv_sub (L' := [(3, iv i3), (1, rn w 1), (2, rn w 76), (0, Value.ref b)]) [0, 1, 2, 3] rfl (zv_exit (fun h => hE _ h))
theorem qL_20 {i L : Nat} {M : zM} {E : zE} {a1 a2 : Int} (hI : zInv i L M E) (h1 : zr a1) (h2 : zr a2) : zO (fL_20 (zKn i) a1 a2 M) (fun M' => ∃ L' E', zInv i L' M' E') := by
  unfold fL_20
  simp only [zflag h2, zb1_s]
  rw [e_X10_mud, e_X11_mud]
  exact zP2_q (p_mud hI h1 zflag01)
def fL_21 (k : zK) (a1 : Int) (a2 : Int) (a3 : Int) (M0 : zM) : Option zM :=
  zbd (f_X10_height k 1 a1 a2 a3 M0) (fun M2 v1 => zbd (f_X11_height k 76 a1 a2 a3 M2) (fun M4 v3 => zeq v1 v3 (some M4)))
theorem vL_21 {κ : zC} {w : zW} (hw : zWk w) {b Ln : Nat} {xs : Nat → Int32} (hX : zSc κ b Ln xs) (hx1 : ztag w.1 1 = 11) (hm1 : ztag w.1 76 = 12) (n0 n1 : Nat) (i3 : Int) (hi : 0 ≤ i3 ∧ i3 + 6 ≤ (Ln : Int)) (a1 : Int) (a2 : Int) (a3 : Int) (ha1 : (xs (i3 + 1).toNat).toInt = a1) (ha2 : (xs (i3 + 2).toNat).toInt = a2) (ha3 : (xs (i3 + 3).toNat).toInt = a3) (M0 : zM) (E : zM → Prop) (hE : ∀ M, E M → zB cL_law RL 4 (some .boolean) κ w (n0, n1, 1000) 1700 [(3, iv i3), (1, rn w 1), (2, rn w 76), (0, Value.ref b)] [] M) :
    zV cL_law RL 4 (some .boolean) κ w (n0, n1, 1000) 1036 [(3, iv i3), (1, rn w 1), (2, rn w 76), (0, Value.ref b)] [] M0 (fL_21 w.1 a1 a2 a3 M0) E := by
  have hT := hw.1
  unfold fL_21
  refine zv_rload_n dL_law_1036 1 rfl ?_
  refine zv_aload_n dL_law_1037 3 rfl ?_
  refine zv_iload_n dL_law_1038 0 rfl ?_
  refine zv_iconst (z := 1) dL_law_1039 ?_
  refine zv_iadd dL_law_1040 ?_
  refine zv_sld hX (by omega) ha1 dL_law_1041 ?_
  refine zv_aload_n dL_law_1042 3 rfl ?_
  refine zv_iload_n dL_law_1043 0 rfl ?_
  refine zv_iconst (z := 2) dL_law_1044 ?_
  refine zv_iadd dL_law_1045 ?_
  refine zv_sld hX (by omega) ha2 dL_law_1046 ?_
  refine zv_aload_n dL_law_1047 3 rfl ?_
  refine zv_iload_n dL_law_1048 0 rfl ?_
  refine zv_iconst (z := 3) dL_law_1049 ?_
  refine zv_iadd dL_law_1050 ?_
  refine zv_sld hX (by omega) ha3 dL_law_1051 ?_
  refine (zv_callVi [iv a1, iv a2, iv a3] (c_X10_height κ.2.1 hw 1 a1 a2 a3 M0 hx1) zmd_X10_height zwI_X10_height zwS_X10_height zwM_RL_108 zcd_10 hx1 rfl (Nat.le_of_ble_eq_true rfl) rfl (Nat.le_of_ble_eq_true rfl) dL_law_1052 (fun M2 v1 _ => ?_))
  refine zv_rload_n dL_law_1055 2 rfl ?_
  refine zv_aload_n dL_law_1056 3 rfl ?_
  refine zv_iload_n dL_law_1057 0 rfl ?_
  refine zv_iconst (z := 1) dL_law_1058 ?_
  refine zv_iadd dL_law_1059 ?_
  refine zv_sld hX (by omega) ha1 dL_law_1060 ?_
  refine zv_aload_n dL_law_1061 3 rfl ?_
  refine zv_iload_n dL_law_1062 0 rfl ?_
  refine zv_iconst (z := 2) dL_law_1063 ?_
  refine zv_iadd dL_law_1064 ?_
  refine zv_sld hX (by omega) ha2 dL_law_1065 ?_
  refine zv_aload_n dL_law_1066 3 rfl ?_
  refine zv_iload_n dL_law_1067 0 rfl ?_
  refine zv_iconst (z := 3) dL_law_1068 ?_
  refine zv_iadd dL_law_1069 ?_
  refine zv_sld hX (by omega) ha3 dL_law_1070 ?_
  refine (zv_callVi [iv a1, iv a2, iv a3] (c_X11_height κ.2.1 hw 76 a1 a2 a3 M2 hm1) zmd_X11_height zwI_X11_height zwS_X11_height zwM_RL_111 zcd_11 hm1 rfl (Nat.le_of_ble_eq_true rfl) rfl (Nat.le_of_ble_eq_true rfl) dL_law_1071 (fun M4 v3 _ => ?_))
  refine zv_icmp_z (tgt := 1700) dL_law_1074 (by decide) ?_
  exact zv_sub (L' := [(3, iv i3), (1, rn w 1), (2, rn w 76), (0, Value.ref b)]) [0, 1, 2, 3] rfl (zv_exit (fun h => hE _ h))
theorem qL_21 {i L : Nat} {M : zM} {E : zE} {a1 a2 a3 : Int} (hI : zInv i L M E) (h1 : zr a1) (h2 : zr a2) (h3 : zr a3) : zO (fL_21 (zKn i) a1 a2 a3 M) (fun M' => ∃ L' E', zInv i L' M' E') := by
  unfold fL_21
  rw [e_X10_height, e_X11_height]
  exact zP2_q (p_height hI h1 h2 h3)
def fL_22 (k : zK) (a1 : Int) (M0 : zM) : Option zM :=
  zbd (f_X10_place k 1 a1 M0) (fun M2 v1 => zbd (f_X11_place k 76 a1 M2) (fun M4 v3 => zeq v1 v3 (some M4)))
theorem vL_22 {κ : zC} {w : zW} (hw : zWk w) {b Ln : Nat} {xs : Nat → Int32} (hX : zSc κ b Ln xs) (hx1 : ztag w.1 1 = 11) (hm1 : ztag w.1 76 = 12) (n0 n1 : Nat) (i3 : Int) (hi : 0 ≤ i3 ∧ i3 + 6 ≤ (Ln : Int)) (a1 : Int) (ha1 : (xs (i3 + 1).toNat).toInt = a1) (M0 : zM) (E : zM → Prop) (hE : ∀ M, E M → zB cL_law RL 4 (some .boolean) κ w (n0, n1, 1000) 1700 [(3, iv i3), (1, rn w 1), (2, rn w 76), (0, Value.ref b)] [] M) :
    zV cL_law RL 4 (some .boolean) κ w (n0, n1, 1000) 1079 [(3, iv i3), (1, rn w 1), (2, rn w 76), (0, Value.ref b)] [] M0 (fL_22 w.1 a1 M0) E := by
  have hT := hw.1
  unfold fL_22
  refine zv_rload_n dL_law_1079 1 rfl ?_
  refine zv_aload_n dL_law_1080 3 rfl ?_
  refine zv_iload_n dL_law_1081 0 rfl ?_
  refine zv_iconst (z := 1) dL_law_1082 ?_
  refine zv_iadd dL_law_1083 ?_
  refine zv_sld hX (by omega) ha1 dL_law_1084 ?_
  refine (zv_callVi [iv a1] (c_X10_place κ.2.1 hw 1 a1 M0 hx1) zmd_X10_place zwI_X10_place zwS_X10_place zwM_RL_112 zcd_10 hx1 rfl (Nat.le_of_ble_eq_true rfl) rfl (Nat.le_of_ble_eq_true rfl) dL_law_1085 (fun M2 v1 _ => ?_))
  refine zv_rload_n dL_law_1088 2 rfl ?_
  refine zv_aload_n dL_law_1089 3 rfl ?_
  refine zv_iload_n dL_law_1090 0 rfl ?_
  refine zv_iconst (z := 1) dL_law_1091 ?_
  refine zv_iadd dL_law_1092 ?_
  refine zv_sld hX (by omega) ha1 dL_law_1093 ?_
  refine (zv_callVi [iv a1] (c_X11_place κ.2.1 hw 76 a1 M2 hm1) zmd_X11_place zwI_X11_place zwS_X11_place zwM_RL_115 zcd_11 hm1 rfl (Nat.le_of_ble_eq_true rfl) rfl (Nat.le_of_ble_eq_true rfl) dL_law_1094 (fun M4 v3 _ => ?_))
  refine zv_icmp_z (tgt := 1700) dL_law_1097 (by decide) ?_
  exact zv_sub (L' := [(3, iv i3), (1, rn w 1), (2, rn w 76), (0, Value.ref b)]) [0, 1, 2, 3] rfl (zv_exit (fun h => hE _ h))
theorem qL_22 {i L : Nat} {M : zM} {E : zE} {a1 : Int} (hI : zInv i L M E) (h1 : zr a1) : zO (fL_22 (zKn i) a1 M) (fun M' => ∃ L' E', zInv i L' M' E') := by
  unfold fL_22
  rw [e_X10_place, e_X11_place]
  exact zP2_q (p_place hI h1)
def fL_23 (k : zK) (a1 : Int) (a2 : Int) (a3 : Int) (M0 : zM) : Option zM :=
  zbd (f_X10_ship k 1 a1 a2 a3 M0) (fun M2 v1 => zbd (f_X11_ship k 76 a1 a2 a3 M2) (fun M4 v3 => zeq v1 v3 (some M4)))
theorem vL_23 {κ : zC} {w : zW} (hw : zWk w) {b Ln : Nat} {xs : Nat → Int32} (hX : zSc κ b Ln xs) (hx1 : ztag w.1 1 = 11) (hm1 : ztag w.1 76 = 12) (n0 n1 : Nat) (i3 : Int) (hi : 0 ≤ i3 ∧ i3 + 6 ≤ (Ln : Int)) (a1 : Int) (a2 : Int) (a3 : Int) (ha1 : (xs (i3 + 1).toNat).toInt = a1) (ha2 : (xs (i3 + 2).toNat).toInt = a2) (ha3 : (xs (i3 + 3).toNat).toInt = a3) (M0 : zM) (E : zM → Prop) (hE : ∀ M, E M → zB cL_law RL 4 (some .boolean) κ w (n0, n1, 1000) 1700 [(3, iv i3), (1, rn w 1), (2, rn w 76), (0, Value.ref b)] [] M) :
    zV cL_law RL 4 (some .boolean) κ w (n0, n1, 1000) 1102 [(3, iv i3), (1, rn w 1), (2, rn w 76), (0, Value.ref b)] [] M0 (fL_23 w.1 a1 a2 a3 M0) E := by
  have hT := hw.1
  unfold fL_23
  refine zv_rload_n dL_law_1102 1 rfl ?_
  refine zv_aload_n dL_law_1103 3 rfl ?_
  refine zv_iload_n dL_law_1104 0 rfl ?_
  refine zv_iconst (z := 1) dL_law_1105 ?_
  refine zv_iadd dL_law_1106 ?_
  refine zv_sld hX (by omega) ha1 dL_law_1107 ?_
  refine zv_aload_n dL_law_1108 3 rfl ?_
  refine zv_iload_n dL_law_1109 0 rfl ?_
  refine zv_iconst (z := 2) dL_law_1110 ?_
  refine zv_iadd dL_law_1111 ?_
  refine zv_sld hX (by omega) ha2 dL_law_1112 ?_
  refine zv_aload_n dL_law_1113 3 rfl ?_
  refine zv_iload_n dL_law_1114 0 rfl ?_
  refine zv_iconst (z := 3) dL_law_1115 ?_
  refine zv_iadd dL_law_1116 ?_
  refine zv_sld hX (by omega) ha3 dL_law_1117 ?_
  refine (zv_callVi [iv a1, iv a2, iv a3] (c_X10_ship κ.2.1 hw 1 a1 a2 a3 M0 hx1) zmd_X10_ship zwI_X10_ship zwS_X10_ship zwM_RL_116 zcd_10 hx1 rfl (Nat.le_of_ble_eq_true rfl) rfl (Nat.le_of_ble_eq_true rfl) dL_law_1118 (fun M2 v1 _ => ?_))
  refine zv_rload_n dL_law_1121 2 rfl ?_
  refine zv_aload_n dL_law_1122 3 rfl ?_
  refine zv_iload_n dL_law_1123 0 rfl ?_
  refine zv_iconst (z := 1) dL_law_1124 ?_
  refine zv_iadd dL_law_1125 ?_
  refine zv_sld hX (by omega) ha1 dL_law_1126 ?_
  refine zv_aload_n dL_law_1127 3 rfl ?_
  refine zv_iload_n dL_law_1128 0 rfl ?_
  refine zv_iconst (z := 2) dL_law_1129 ?_
  refine zv_iadd dL_law_1130 ?_
  refine zv_sld hX (by omega) ha2 dL_law_1131 ?_
  refine zv_aload_n dL_law_1132 3 rfl ?_
  refine zv_iload_n dL_law_1133 0 rfl ?_
  refine zv_iconst (z := 3) dL_law_1134 ?_
  refine zv_iadd dL_law_1135 ?_
  refine zv_sld hX (by omega) ha3 dL_law_1136 ?_
  refine (zv_callVi [iv a1, iv a2, iv a3] (c_X11_ship κ.2.1 hw 76 a1 a2 a3 M2 hm1) zmd_X11_ship zwI_X11_ship zwS_X11_ship zwM_RL_119 zcd_11 hm1 rfl (Nat.le_of_ble_eq_true rfl) rfl (Nat.le_of_ble_eq_true rfl) dL_law_1137 (fun M4 v3 _ => ?_))
  refine zv_icmp_z (tgt := 1700) dL_law_1140 (by decide) ?_
  exact zv_sub (L' := [(3, iv i3), (1, rn w 1), (2, rn w 76), (0, Value.ref b)]) [0, 1, 2, 3] rfl (zv_exit (fun h => hE _ h))
theorem qL_23 {i L : Nat} {M : zM} {E : zE} {a1 a2 a3 : Int} (hI : zInv i L M E) (h1 : zr a1) (h2 : zr a2) (h3 : zr a3) : zO (fL_23 (zKn i) a1 a2 a3 M) (fun M' => ∃ L' E', zInv i L' M' E') := by
  unfold fL_23
  rw [e_X10_ship, e_X11_ship]
  exact zP2_q (p_ship hI h1 h2 h3)
def fL_24 (k : zK) (a1 : Int) (a2 : Int) (M0 : zM) : Option zM :=
  zbd (f_X10_lean k 1 a1 a2 M0) (fun M2 v1 => zbd (f_X11_lean k 76 a1 a2 M2) (fun M4 v3 => zeq v1 v3 (some M4)))
theorem vL_24 {κ : zC} {w : zW} (hw : zWk w) {b Ln : Nat} {xs : Nat → Int32} (hX : zSc κ b Ln xs) (hx1 : ztag w.1 1 = 11) (hm1 : ztag w.1 76 = 12) (n0 n1 : Nat) (i3 : Int) (hi : 0 ≤ i3 ∧ i3 + 6 ≤ (Ln : Int)) (a1 : Int) (a2 : Int) (ha1 : (xs (i3 + 1).toNat).toInt = a1) (ha2 : (xs (i3 + 2).toNat).toInt = a2) (M0 : zM) (E : zM → Prop) (hE : ∀ M, E M → zB cL_law RL 4 (some .boolean) κ w (n0, n1, 1000) 1700 [(3, iv i3), (1, rn w 1), (2, rn w 76), (0, Value.ref b)] [] M) :
    zV cL_law RL 4 (some .boolean) κ w (n0, n1, 1000) 1145 [(3, iv i3), (1, rn w 1), (2, rn w 76), (0, Value.ref b)] [] M0 (fL_24 w.1 a1 a2 M0) E := by
  have hT := hw.1
  unfold fL_24
  refine zv_rload_n dL_law_1145 1 rfl ?_
  refine zv_aload_n dL_law_1146 3 rfl ?_
  refine zv_iload_n dL_law_1147 0 rfl ?_
  refine zv_iconst (z := 1) dL_law_1148 ?_
  refine zv_iadd dL_law_1149 ?_
  refine zv_sld hX (by omega) ha1 dL_law_1150 ?_
  refine zv_aload_n dL_law_1151 3 rfl ?_
  refine zv_iload_n dL_law_1152 0 rfl ?_
  refine zv_iconst (z := 2) dL_law_1153 ?_
  refine zv_iadd dL_law_1154 ?_
  refine zv_sld hX (by omega) ha2 dL_law_1155 ?_
  refine (zv_callVi [iv a1, iv a2] (c_X10_lean κ.2.1 hw 1 a1 a2 M0 hx1) zmd_X10_lean zwI_X10_lean zwS_X10_lean zwM_RL_120 zcd_10 hx1 rfl (Nat.le_of_ble_eq_true rfl) rfl (Nat.le_of_ble_eq_true rfl) dL_law_1156 (fun M2 v1 _ => ?_))
  refine zv_rload_n dL_law_1159 2 rfl ?_
  refine zv_aload_n dL_law_1160 3 rfl ?_
  refine zv_iload_n dL_law_1161 0 rfl ?_
  refine zv_iconst (z := 1) dL_law_1162 ?_
  refine zv_iadd dL_law_1163 ?_
  refine zv_sld hX (by omega) ha1 dL_law_1164 ?_
  refine zv_aload_n dL_law_1165 3 rfl ?_
  refine zv_iload_n dL_law_1166 0 rfl ?_
  refine zv_iconst (z := 2) dL_law_1167 ?_
  refine zv_iadd dL_law_1168 ?_
  refine zv_sld hX (by omega) ha2 dL_law_1169 ?_
  refine (zv_callVi [iv a1, iv a2] (c_X11_lean κ.2.1 hw 76 a1 a2 M2 hm1) zmd_X11_lean zwI_X11_lean zwS_X11_lean zwM_RL_123 zcd_11 hm1 rfl (Nat.le_of_ble_eq_true rfl) rfl (Nat.le_of_ble_eq_true rfl) dL_law_1170 (fun M4 v3 _ => ?_))
  refine zv_icmp_z (tgt := 1700) dL_law_1173 (by decide) ?_
  exact zv_sub (L' := [(3, iv i3), (1, rn w 1), (2, rn w 76), (0, Value.ref b)]) [0, 1, 2, 3] rfl (zv_exit (fun h => hE _ h))
theorem qL_24 {i L : Nat} {M : zM} {E : zE} {a1 a2 : Int} (hI : zInv i L M E) (h1 : zr a1) (h2 : zr a2) : zO (fL_24 (zKn i) a1 a2 M) (fun M' => ∃ L' E', zInv i L' M' E') := by
  unfold fL_24
  rw [e_X10_lean, e_X11_lean]
  exact zP2_q (p_lean hI h1 h2)
def fL_25 (k : zK) (a1 : Int) (a2 : Int) (a3 : Int) (M0 : zM) : Option zM :=
  zbd (f_X10_right k 1 a1 a2 a3 M0) (fun M2 v1 => zbd (f_X11_right k 76 a1 a2 a3 M2) (fun M4 v3 => zeq v1 v3 (some M4)))
theorem vL_25 {κ : zC} {w : zW} (hw : zWk w) {b Ln : Nat} {xs : Nat → Int32} (hX : zSc κ b Ln xs) (hx1 : ztag w.1 1 = 11) (hm1 : ztag w.1 76 = 12) (n0 n1 : Nat) (i3 : Int) (hi : 0 ≤ i3 ∧ i3 + 6 ≤ (Ln : Int)) (a1 : Int) (a2 : Int) (a3 : Int) (ha1 : (xs (i3 + 1).toNat).toInt = a1) (ha2 : (xs (i3 + 2).toNat).toInt = a2) (ha3 : (xs (i3 + 3).toNat).toInt = a3) (M0 : zM) (E : zM → Prop) (hE : ∀ M, E M → zB cL_law RL 4 (some .boolean) κ w (n0, n1, 1000) 1700 [(3, iv i3), (1, rn w 1), (2, rn w 76), (0, Value.ref b)] [] M) :
    zV cL_law RL 4 (some .boolean) κ w (n0, n1, 1000) 1178 [(3, iv i3), (1, rn w 1), (2, rn w 76), (0, Value.ref b)] [] M0 (fL_25 w.1 a1 a2 a3 M0) E := by
  have hT := hw.1
  unfold fL_25
  refine zv_rload_n dL_law_1178 1 rfl ?_
  refine zv_aload_n dL_law_1179 3 rfl ?_
  refine zv_iload_n dL_law_1180 0 rfl ?_
  refine zv_iconst (z := 1) dL_law_1181 ?_
  refine zv_iadd dL_law_1182 ?_
  refine zv_sld hX (by omega) ha1 dL_law_1183 ?_
  refine zv_aload_n dL_law_1184 3 rfl ?_
  refine zv_iload_n dL_law_1185 0 rfl ?_
  refine zv_iconst (z := 2) dL_law_1186 ?_
  refine zv_iadd dL_law_1187 ?_
  refine zv_sld hX (by omega) ha2 dL_law_1188 ?_
  refine zv_aload_n dL_law_1189 3 rfl ?_
  refine zv_iload_n dL_law_1190 0 rfl ?_
  refine zv_iconst (z := 3) dL_law_1191 ?_
  refine zv_iadd dL_law_1192 ?_
  refine zv_sld hX (by omega) ha3 dL_law_1193 ?_
  refine (zv_callVl [iv a1, iv a2, iv a3] (c_X10_right κ.2.1 hw 1 a1 a2 a3 M0 hx1) zmd_X10_right zwI_X10_right zwS_X10_right zwM_RL_124 zcd_10 hx1 rfl (Nat.le_of_ble_eq_true rfl) rfl (Nat.le_of_ble_eq_true rfl) dL_law_1194 (fun M2 v1 _ => ?_))
  refine zv_rload_n dL_law_1197 2 rfl ?_
  refine zv_aload_n dL_law_1198 3 rfl ?_
  refine zv_iload_n dL_law_1199 0 rfl ?_
  refine zv_iconst (z := 1) dL_law_1200 ?_
  refine zv_iadd dL_law_1201 ?_
  refine zv_sld hX (by omega) ha1 dL_law_1202 ?_
  refine zv_aload_n dL_law_1203 3 rfl ?_
  refine zv_iload_n dL_law_1204 0 rfl ?_
  refine zv_iconst (z := 2) dL_law_1205 ?_
  refine zv_iadd dL_law_1206 ?_
  refine zv_sld hX (by omega) ha2 dL_law_1207 ?_
  refine zv_aload_n dL_law_1208 3 rfl ?_
  refine zv_iload_n dL_law_1209 0 rfl ?_
  refine zv_iconst (z := 3) dL_law_1210 ?_
  refine zv_iadd dL_law_1211 ?_
  refine zv_sld hX (by omega) ha3 dL_law_1212 ?_
  refine (zv_callVl [iv a1, iv a2, iv a3] (c_X11_right κ.2.1 hw 76 a1 a2 a3 M2 hm1) zmd_X11_right zwI_X11_right zwS_X11_right zwM_RL_127 zcd_11 hm1 rfl (Nat.le_of_ble_eq_true rfl) rfl (Nat.le_of_ble_eq_true rfl) dL_law_1213 (fun M4 v3 _ => ?_))
  refine zv_lcmp_z (tgt := 1700) dL_law_1216 dL_law_1217 (by decide) ?_
  exact zv_sub (L' := [(3, iv i3), (1, rn w 1), (2, rn w 76), (0, Value.ref b)]) [0, 1, 2, 3] rfl (zv_exit (fun h => hE _ h))
theorem qL_25 {i L : Nat} {M : zM} {E : zE} {a1 a2 a3 : Int} (hI : zInv i L M E) (h1 : zr a1) (h2 : zr a2) (h3 : zr a3) : zO (fL_25 (zKn i) a1 a2 a3 M) (fun M' => ∃ L' E', zInv i L' M' E') := by
  unfold fL_25
  rw [e_X10_right, e_X11_right]
  exact zP2_q (p_right hI h1 h2 h3)
def fL_26 (k : zK) (a1 : Int) (a2 : Int) (M0 : zM) : Option zM :=
  zbd (f_X10_ahead k 1 a1 a2 M0) (fun M2 v1 => zbd (f_X11_ahead k 76 a1 a2 M2) (fun M4 v3 => zeq v1 v3 (some M4)))
theorem vL_26 {κ : zC} {w : zW} (hw : zWk w) {b Ln : Nat} {xs : Nat → Int32} (hX : zSc κ b Ln xs) (hx1 : ztag w.1 1 = 11) (hm1 : ztag w.1 76 = 12) (n0 n1 : Nat) (i3 : Int) (hi : 0 ≤ i3 ∧ i3 + 6 ≤ (Ln : Int)) (a1 : Int) (a2 : Int) (ha1 : (xs (i3 + 1).toNat).toInt = a1) (ha2 : (xs (i3 + 2).toNat).toInt = a2) (M0 : zM) (E : zM → Prop) (hE : ∀ M, E M → zB cL_law RL 4 (some .boolean) κ w (n0, n1, 1000) 1700 [(3, iv i3), (1, rn w 1), (2, rn w 76), (0, Value.ref b)] [] M) :
    zV cL_law RL 4 (some .boolean) κ w (n0, n1, 1000) 1222 [(3, iv i3), (1, rn w 1), (2, rn w 76), (0, Value.ref b)] [] M0 (fL_26 w.1 a1 a2 M0) E := by
  have hT := hw.1
  unfold fL_26
  refine zv_rload_n dL_law_1222 1 rfl ?_
  refine zv_aload_n dL_law_1223 3 rfl ?_
  refine zv_iload_n dL_law_1224 0 rfl ?_
  refine zv_iconst (z := 1) dL_law_1225 ?_
  refine zv_iadd dL_law_1226 ?_
  refine zv_sld hX (by omega) ha1 dL_law_1227 ?_
  refine zv_aload_n dL_law_1228 3 rfl ?_
  refine zv_iload_n dL_law_1229 0 rfl ?_
  refine zv_iconst (z := 2) dL_law_1230 ?_
  refine zv_iadd dL_law_1231 ?_
  refine zv_sld hX (by omega) ha2 dL_law_1232 ?_
  refine (zv_callVi [iv a1, iv a2] (c_X10_ahead κ.2.1 hw 1 a1 a2 M0 hx1) zmd_X10_ahead zwI_X10_ahead zwS_X10_ahead zwM_RL_128 zcd_10 hx1 rfl (Nat.le_of_ble_eq_true rfl) rfl (Nat.le_of_ble_eq_true rfl) dL_law_1233 (fun M2 v1 _ => ?_))
  refine zv_rload_n dL_law_1236 2 rfl ?_
  refine zv_aload_n dL_law_1237 3 rfl ?_
  refine zv_iload_n dL_law_1238 0 rfl ?_
  refine zv_iconst (z := 1) dL_law_1239 ?_
  refine zv_iadd dL_law_1240 ?_
  refine zv_sld hX (by omega) ha1 dL_law_1241 ?_
  refine zv_aload_n dL_law_1242 3 rfl ?_
  refine zv_iload_n dL_law_1243 0 rfl ?_
  refine zv_iconst (z := 2) dL_law_1244 ?_
  refine zv_iadd dL_law_1245 ?_
  refine zv_sld hX (by omega) ha2 dL_law_1246 ?_
  refine (zv_callVi [iv a1, iv a2] (c_X11_ahead κ.2.1 hw 76 a1 a2 M2 hm1) zmd_X11_ahead zwI_X11_ahead zwS_X11_ahead zwM_RL_131 zcd_11 hm1 rfl (Nat.le_of_ble_eq_true rfl) rfl (Nat.le_of_ble_eq_true rfl) dL_law_1247 (fun M4 v3 _ => ?_))
  refine zv_icmp_z (tgt := 1700) dL_law_1250 (by decide) ?_
  exact zv_sub (L' := [(3, iv i3), (1, rn w 1), (2, rn w 76), (0, Value.ref b)]) [0, 1, 2, 3] rfl (zv_exit (fun h => hE _ h))
theorem qL_26 {i L : Nat} {M : zM} {E : zE} {a1 a2 : Int} (hI : zInv i L M E) (h1 : zr a1) (h2 : zr a2) : zO (fL_26 (zKn i) a1 a2 M) (fun M' => ∃ L' E', zInv i L' M' E') := by
  unfold fL_26
  rw [e_X10_ahead, e_X11_ahead]
  exact zP2_q (p_ahead hI h1 h2)
def fL_27 (k : zK) (a1 : Int) (a2 : Int) (a3 : Int) (M0 : zM) : Option zM :=
  zbd (f_X10_held k 1 a1 a2 a3 M0) (fun M2 v1 => zbd (f_X11_held k 76 a1 a2 a3 M2) (fun M4 v3 => zeq v1 v3 (some M4)))
theorem vL_27 {κ : zC} {w : zW} (hw : zWk w) {b Ln : Nat} {xs : Nat → Int32} (hX : zSc κ b Ln xs) (hx1 : ztag w.1 1 = 11) (hm1 : ztag w.1 76 = 12) (n0 n1 : Nat) (i3 : Int) (hi : 0 ≤ i3 ∧ i3 + 6 ≤ (Ln : Int)) (a1 : Int) (a2 : Int) (a3 : Int) (ha1 : (xs (i3 + 1).toNat).toInt = a1) (ha2 : (xs (i3 + 2).toNat).toInt = a2) (ha3 : (xs (i3 + 3).toNat).toInt = a3) (M0 : zM) (E : zM → Prop) (hE : ∀ M, E M → zB cL_law RL 4 (some .boolean) κ w (n0, n1, 1000) 1700 [(3, iv i3), (1, rn w 1), (2, rn w 76), (0, Value.ref b)] [] M) :
    zV cL_law RL 4 (some .boolean) κ w (n0, n1, 1000) 1255 [(3, iv i3), (1, rn w 1), (2, rn w 76), (0, Value.ref b)] [] M0 (fL_27 w.1 a1 a2 a3 M0) E := by
  have hT := hw.1
  unfold fL_27
  refine zv_rload_n dL_law_1255 1 rfl ?_
  refine zv_aload_n dL_law_1256 3 rfl ?_
  refine zv_iload_n dL_law_1257 0 rfl ?_
  refine zv_iconst (z := 1) dL_law_1258 ?_
  refine zv_iadd dL_law_1259 ?_
  refine zv_sld hX (by omega) ha1 dL_law_1260 ?_
  refine zv_aload_n dL_law_1261 3 rfl ?_
  refine zv_iload_n dL_law_1262 0 rfl ?_
  refine zv_iconst (z := 2) dL_law_1263 ?_
  refine zv_iadd dL_law_1264 ?_
  refine zv_sld hX (by omega) ha2 dL_law_1265 ?_
  refine zv_aload_n dL_law_1266 3 rfl ?_
  refine zv_iload_n dL_law_1267 0 rfl ?_
  refine zv_iconst (z := 3) dL_law_1268 ?_
  refine zv_iadd dL_law_1269 ?_
  refine zv_sld hX (by omega) ha3 dL_law_1270 ?_
  refine (zv_callVi [iv a1, iv a2, iv a3] (c_X10_held κ.2.1 hw 1 a1 a2 a3 M0 hx1) zmd_X10_held zwI_X10_held zwS_X10_held zwM_RL_132 zcd_10 hx1 rfl (Nat.le_of_ble_eq_true rfl) rfl (Nat.le_of_ble_eq_true rfl) dL_law_1271 (fun M2 v1 _ => ?_))
  refine zv_rload_n dL_law_1274 2 rfl ?_
  refine zv_aload_n dL_law_1275 3 rfl ?_
  refine zv_iload_n dL_law_1276 0 rfl ?_
  refine zv_iconst (z := 1) dL_law_1277 ?_
  refine zv_iadd dL_law_1278 ?_
  refine zv_sld hX (by omega) ha1 dL_law_1279 ?_
  refine zv_aload_n dL_law_1280 3 rfl ?_
  refine zv_iload_n dL_law_1281 0 rfl ?_
  refine zv_iconst (z := 2) dL_law_1282 ?_
  refine zv_iadd dL_law_1283 ?_
  refine zv_sld hX (by omega) ha2 dL_law_1284 ?_
  refine zv_aload_n dL_law_1285 3 rfl ?_
  refine zv_iload_n dL_law_1286 0 rfl ?_
  refine zv_iconst (z := 3) dL_law_1287 ?_
  refine zv_iadd dL_law_1288 ?_
  refine zv_sld hX (by omega) ha3 dL_law_1289 ?_
  refine (zv_callVi [iv a1, iv a2, iv a3] (c_X11_held κ.2.1 hw 76 a1 a2 a3 M2 hm1) zmd_X11_held zwI_X11_held zwS_X11_held zwM_RL_135 zcd_11 hm1 rfl (Nat.le_of_ble_eq_true rfl) rfl (Nat.le_of_ble_eq_true rfl) dL_law_1290 (fun M4 v3 _ => ?_))
  refine zv_icmp_z (tgt := 1700) dL_law_1293 (by decide) ?_
  exact zv_sub (L' := [(3, iv i3), (1, rn w 1), (2, rn w 76), (0, Value.ref b)]) [0, 1, 2, 3] rfl (zv_exit (fun h => hE _ h))
theorem qL_27 {i L : Nat} {M : zM} {E : zE} {a1 a2 a3 : Int} (hI : zInv i L M E) (h1 : zr a1) (h2 : zr a2) (h3 : zr a3) : zO (fL_27 (zKn i) a1 a2 a3 M) (fun M' => ∃ L' E', zInv i L' M' E') := by
  unfold fL_27
  rw [e_X10_held, e_X11_held]
  exact zP2_q (p_held hI h1 h2 h3)
def fL_28 (k : zK) (a1 : Int) (a2 : Int) (a3 : Int) (a4 : Int) (a5 : Int) (M0 : zM) : Option zM :=
  zbd (f_X10_world k 1 a1 a2 a3 a4 a5 M0) (fun M2 v1 => zbd (f_X11_world k 76 a1 a2 a3 a4 a5 M2) (fun M4 v3 => zeq v1 v3 (some M4)))
theorem vL_28 {κ : zC} {w : zW} (hw : zWk w) {b Ln : Nat} {xs : Nat → Int32} (hX : zSc κ b Ln xs) (hx1 : ztag w.1 1 = 11) (hm1 : ztag w.1 76 = 12) {i : Nat} (hk : w.1 = zKn i) (hi3 : i ≤ 3) (n0 n1 : Nat) (hroom : n0 + 1 ≤ κ.2.2.2.1.cells ∧ n1 + 1 ≤ κ.2.2.2.1.slots) (i3 : Int) (hi : 0 ≤ i3 ∧ i3 + 6 ≤ (Ln : Int)) (a1 : Int) (a2 : Int) (a3 : Int) (a4 : Int) (a5 : Int) (ha1 : (xs (i3 + 1).toNat).toInt = a1) (ha2 : (xs (i3 + 2).toNat).toInt = a2) (ha3 : (xs (i3 + 3).toNat).toInt = a3) (ha4 : (xs (i3 + 4).toNat).toInt = a4) (ha5 : (xs (i3 + 5).toNat).toInt = a5) (M0 : zM) (E : zM → Prop) (hE : ∀ M, E M → zB cL_law RL 4 (some .boolean) κ w (n0 + 1, n1 + 1, 1000) 1700 [(3, iv i3), (1, rn w 1), (2, rn w 76), (0, Value.ref b)] [] M) :
    zV cL_law RL 4 (some .boolean) κ w (n0, n1, 1000) 1298 [(3, iv i3), (1, rn w 1), (2, rn w 76), (0, Value.ref b)] [] M0 (fL_28 w.1 a1 a2 a3 a4 a5 M0) E := by
  have hT := hw.1
  unfold fL_28
  refine zv_rload_n dL_law_1298 1 rfl ?_
  refine zv_aload_n dL_law_1299 3 rfl ?_
  refine zv_iload_n dL_law_1300 0 rfl ?_
  refine zv_iconst (z := 1) dL_law_1301 ?_
  refine zv_iadd dL_law_1302 ?_
  refine zv_sld hX (by omega) ha1 dL_law_1303 ?_
  refine zv_aload_n dL_law_1304 3 rfl ?_
  refine zv_iload_n dL_law_1305 0 rfl ?_
  refine zv_iconst (z := 2) dL_law_1306 ?_
  refine zv_iadd dL_law_1307 ?_
  refine zv_sld hX (by omega) ha2 dL_law_1308 ?_
  refine zv_aload_n dL_law_1309 3 rfl ?_
  refine zv_iload_n dL_law_1310 0 rfl ?_
  refine zv_iconst (z := 3) dL_law_1311 ?_
  refine zv_iadd dL_law_1312 ?_
  refine zv_sld hX (by omega) ha3 dL_law_1313 ?_
  refine zv_aload_n dL_law_1314 3 rfl ?_
  refine zv_iload_n dL_law_1315 0 rfl ?_
  refine zv_iconst (z := 4) dL_law_1316 ?_
  refine zv_iadd dL_law_1317 ?_
  refine zv_sld hX (by omega) ha4 dL_law_1318 ?_
  refine zv_aload_n dL_law_1319 3 rfl ?_
  refine zv_iload_n dL_law_1320 0 rfl ?_
  refine zv_iconst (z := 5) dL_law_1321 ?_
  refine zv_iadd dL_law_1322 ?_
  refine zv_sld hX (by omega) ha5 dL_law_1323 ?_
  refine (zv_callViN [iv a1, iv a2, iv a3, iv a4, iv a5] (c_X10_world κ.2.1 hw hk hi3 1 a1 a2 a3 a4 a5 M0 hx1) hroom zmd_X10_world zwI_X10_world zwS_X10_world zwM_RL_136 zcd_10 hx1 rfl (Nat.le_of_ble_eq_true rfl) rfl (Nat.le_of_ble_eq_true rfl) dL_law_1324 (fun M2 v1 _ => ?_))
  refine zv_rload_n dL_law_1327 2 rfl ?_
  refine zv_aload_n dL_law_1328 3 rfl ?_
  refine zv_iload_n dL_law_1329 0 rfl ?_
  refine zv_iconst (z := 1) dL_law_1330 ?_
  refine zv_iadd dL_law_1331 ?_
  refine zv_sld hX (by omega) ha1 dL_law_1332 ?_
  refine zv_aload_n dL_law_1333 3 rfl ?_
  refine zv_iload_n dL_law_1334 0 rfl ?_
  refine zv_iconst (z := 2) dL_law_1335 ?_
  refine zv_iadd dL_law_1336 ?_
  refine zv_sld hX (by omega) ha2 dL_law_1337 ?_
  refine zv_aload_n dL_law_1338 3 rfl ?_
  refine zv_iload_n dL_law_1339 0 rfl ?_
  refine zv_iconst (z := 3) dL_law_1340 ?_
  refine zv_iadd dL_law_1341 ?_
  refine zv_sld hX (by omega) ha3 dL_law_1342 ?_
  refine zv_aload_n dL_law_1343 3 rfl ?_
  refine zv_iload_n dL_law_1344 0 rfl ?_
  refine zv_iconst (z := 4) dL_law_1345 ?_
  refine zv_iadd dL_law_1346 ?_
  refine zv_sld hX (by omega) ha4 dL_law_1347 ?_
  refine zv_aload_n dL_law_1348 3 rfl ?_
  refine zv_iload_n dL_law_1349 0 rfl ?_
  refine zv_iconst (z := 5) dL_law_1350 ?_
  refine zv_iadd dL_law_1351 ?_
  refine zv_sld hX (by omega) ha5 dL_law_1352 ?_
  refine (zv_callVi [iv a1, iv a2, iv a3, iv a4, iv a5] (c_X11_world κ.2.1 hw 76 a1 a2 a3 a4 a5 M2 hm1) zmd_X11_world zwI_X11_world zwS_X11_world zwM_RL_139 zcd_11 hm1 rfl (Nat.le_of_ble_eq_true rfl) rfl (Nat.le_of_ble_eq_true rfl) dL_law_1353 (fun M4 v3 _ => ?_))
  refine zv_icmp_z (tgt := 1700) dL_law_1356 (by decide) ?_
  exact zv_sub (L' := [(3, iv i3), (1, rn w 1), (2, rn w 76), (0, Value.ref b)]) [0, 1, 2, 3] rfl (zv_exit (fun h => hE _ h))
theorem qL_28 {i L : Nat} {M : zM} {E : zE} {a1 a2 a3 a4 a5 : Int} (hI : zInv i L M E) (h1 : zr a1) (h2 : zr a2) (h3 : zr a3) (h4 : zr a4) (h5 : zr a5) : zO (fL_28 (zKn i) a1 a2 a3 a4 a5 M) (fun M' => ∃ L' E', zInv i L' M' E') := by
  unfold fL_28
  rw [e_X11_world]
  exact zP2_q (p_world hI h1 h2 h3 h4 h5)
def fL_29 (k : zK) (a1 : Int) (a2 : Int) (M0 : zM) : Option zM :=
  zbd (f_X10_say k 1 a1 a2 M0) (fun M2 v1 => zbd (f_X11_say k 76 a1 a2 M2) (fun M4 v3 => zeq v1 v3 (some M4)))
theorem vL_29 {κ : zC} {w : zW} (hw : zWk w) {b Ln : Nat} {xs : Nat → Int32} (hX : zSc κ b Ln xs) (hx1 : ztag w.1 1 = 11) (hm1 : ztag w.1 76 = 12) (n0 n1 : Nat) (i3 : Int) (hi : 0 ≤ i3 ∧ i3 + 6 ≤ (Ln : Int)) (a1 : Int) (a2 : Int) (ha1 : (xs (i3 + 1).toNat).toInt = a1) (ha2 : (xs (i3 + 2).toNat).toInt = a2) (M0 : zM) (E : zM → Prop) (hE : ∀ M, E M → zB cL_law RL 4 (some .boolean) κ w (n0, n1, 1000) 1700 [(3, iv i3), (1, rn w 1), (2, rn w 76), (0, Value.ref b)] [] M) :
    zV cL_law RL 4 (some .boolean) κ w (n0, n1, 1000) 1361 [(3, iv i3), (1, rn w 1), (2, rn w 76), (0, Value.ref b)] [] M0 (fL_29 w.1 a1 a2 M0) E := by
  have hT := hw.1
  unfold fL_29
  refine zv_rload_n dL_law_1361 1 rfl ?_
  refine zv_aload_n dL_law_1362 3 rfl ?_
  refine zv_iload_n dL_law_1363 0 rfl ?_
  refine zv_iconst (z := 1) dL_law_1364 ?_
  refine zv_iadd dL_law_1365 ?_
  refine zv_sld hX (by omega) ha1 dL_law_1366 ?_
  refine zv_aload_n dL_law_1367 3 rfl ?_
  refine zv_iload_n dL_law_1368 0 rfl ?_
  refine zv_iconst (z := 2) dL_law_1369 ?_
  refine zv_iadd dL_law_1370 ?_
  refine zv_sld hX (by omega) ha2 dL_law_1371 ?_
  refine (zv_callVi [iv a1, iv a2] (c_X10_say κ.2.1 hw 1 a1 a2 M0 hx1) zmd_X10_say zwI_X10_say zwS_X10_say zwM_RL_140 zcd_10 hx1 rfl (Nat.le_of_ble_eq_true rfl) rfl (Nat.le_of_ble_eq_true rfl) dL_law_1372 (fun M2 v1 _ => ?_))
  refine zv_rload_n dL_law_1375 2 rfl ?_
  refine zv_aload_n dL_law_1376 3 rfl ?_
  refine zv_iload_n dL_law_1377 0 rfl ?_
  refine zv_iconst (z := 1) dL_law_1378 ?_
  refine zv_iadd dL_law_1379 ?_
  refine zv_sld hX (by omega) ha1 dL_law_1380 ?_
  refine zv_aload_n dL_law_1381 3 rfl ?_
  refine zv_iload_n dL_law_1382 0 rfl ?_
  refine zv_iconst (z := 2) dL_law_1383 ?_
  refine zv_iadd dL_law_1384 ?_
  refine zv_sld hX (by omega) ha2 dL_law_1385 ?_
  refine (zv_callVi [iv a1, iv a2] (c_X11_say κ.2.1 hw 76 a1 a2 M2 hm1) zmd_X11_say zwI_X11_say zwS_X11_say zwM_RL_143 zcd_11 hm1 rfl (Nat.le_of_ble_eq_true rfl) rfl (Nat.le_of_ble_eq_true rfl) dL_law_1386 (fun M4 v3 _ => ?_))
  refine zv_icmp_z (tgt := 1700) dL_law_1389 (by decide) ?_
  exact zv_sub (L' := [(3, iv i3), (1, rn w 1), (2, rn w 76), (0, Value.ref b)]) [0, 1, 2, 3] rfl (zv_exit (fun h => hE _ h))
theorem qL_29 {i L : Nat} {M : zM} {E : zE} {a1 a2 : Int} (hI : zInv i L M E) (h1 : zr a1) (h2 : zr a2) : zO (fL_29 (zKn i) a1 a2 M) (fun M' => ∃ L' E', zInv i L' M' E') := by
  unfold fL_29
  rw [e_X10_say, e_X11_say]
  exact zP2_q (p_say hI h1 h2)
def fL_30 (k : zK) (a1 : Int) (a2 : Int) (a3 : Int) (M0 : zM) : Option zM :=
  zbd (f_X10_ford k 1 a1 a2 a3 M0) (fun M2 v1 => zbd (f_X11_ford k 76 a1 a2 a3 M2) (fun M4 v3 => zeq v1 v3 (some M4)))
theorem vL_30 {κ : zC} {w : zW} (hw : zWk w) {b Ln : Nat} {xs : Nat → Int32} (hX : zSc κ b Ln xs) (hx1 : ztag w.1 1 = 11) (hm1 : ztag w.1 76 = 12) (n0 n1 : Nat) (i3 : Int) (hi : 0 ≤ i3 ∧ i3 + 6 ≤ (Ln : Int)) (a1 : Int) (a2 : Int) (a3 : Int) (ha1 : (xs (i3 + 1).toNat).toInt = a1) (ha2 : (xs (i3 + 2).toNat).toInt = a2) (ha3 : (xs (i3 + 3).toNat).toInt = a3) (M0 : zM) (E : zM → Prop) (hE : ∀ M, E M → zB cL_law RL 4 (some .boolean) κ w (n0, n1, 1000) 1700 [(3, iv i3), (1, rn w 1), (2, rn w 76), (0, Value.ref b)] [] M) :
    zV cL_law RL 4 (some .boolean) κ w (n0, n1, 1000) 1394 [(3, iv i3), (1, rn w 1), (2, rn w 76), (0, Value.ref b)] [] M0 (fL_30 w.1 a1 a2 a3 M0) E := by
  have hT := hw.1
  unfold fL_30
  refine zv_rload_n dL_law_1394 1 rfl ?_
  refine zv_aload_n dL_law_1395 3 rfl ?_
  refine zv_iload_n dL_law_1396 0 rfl ?_
  refine zv_iconst (z := 1) dL_law_1397 ?_
  refine zv_iadd dL_law_1398 ?_
  refine zv_sld hX (by omega) ha1 dL_law_1399 ?_
  refine zv_aload_n dL_law_1400 3 rfl ?_
  refine zv_iload_n dL_law_1401 0 rfl ?_
  refine zv_iconst (z := 2) dL_law_1402 ?_
  refine zv_iadd dL_law_1403 ?_
  refine zv_sld hX (by omega) ha2 dL_law_1404 ?_
  refine zv_aload_n dL_law_1405 3 rfl ?_
  refine zv_iload_n dL_law_1406 0 rfl ?_
  refine zv_iconst (z := 3) dL_law_1407 ?_
  refine zv_iadd dL_law_1408 ?_
  refine zv_sld hX (by omega) ha3 dL_law_1409 ?_
  refine (zv_callVi [iv a1, iv a2, iv a3] (c_X10_ford κ.2.1 hw 1 a1 a2 a3 M0 hx1) zmd_X10_ford zwI_X10_ford zwS_X10_ford zwM_RL_144 zcd_10 hx1 rfl (Nat.le_of_ble_eq_true rfl) rfl (Nat.le_of_ble_eq_true rfl) dL_law_1410 (fun M2 v1 _ => ?_))
  refine zv_rload_n dL_law_1413 2 rfl ?_
  refine zv_aload_n dL_law_1414 3 rfl ?_
  refine zv_iload_n dL_law_1415 0 rfl ?_
  refine zv_iconst (z := 1) dL_law_1416 ?_
  refine zv_iadd dL_law_1417 ?_
  refine zv_sld hX (by omega) ha1 dL_law_1418 ?_
  refine zv_aload_n dL_law_1419 3 rfl ?_
  refine zv_iload_n dL_law_1420 0 rfl ?_
  refine zv_iconst (z := 2) dL_law_1421 ?_
  refine zv_iadd dL_law_1422 ?_
  refine zv_sld hX (by omega) ha2 dL_law_1423 ?_
  refine zv_aload_n dL_law_1424 3 rfl ?_
  refine zv_iload_n dL_law_1425 0 rfl ?_
  refine zv_iconst (z := 3) dL_law_1426 ?_
  refine zv_iadd dL_law_1427 ?_
  refine zv_sld hX (by omega) ha3 dL_law_1428 ?_
  refine (zv_callVi [iv a1, iv a2, iv a3] (c_X11_ford κ.2.1 hw 76 a1 a2 a3 M2 hm1) zmd_X11_ford zwI_X11_ford zwS_X11_ford zwM_RL_147 zcd_11 hm1 rfl (Nat.le_of_ble_eq_true rfl) rfl (Nat.le_of_ble_eq_true rfl) dL_law_1429 (fun M4 v3 _ => ?_))
  refine zv_icmp_z (tgt := 1700) dL_law_1432 (by decide) ?_
  exact zv_sub (L' := [(3, iv i3), (1, rn w 1), (2, rn w 76), (0, Value.ref b)]) [0, 1, 2, 3] rfl (zv_exit (fun h => hE _ h))
theorem qL_30 {i L : Nat} {M : zM} {E : zE} {a1 a2 a3 : Int} (hI : zInv i L M E) (h1 : zr a1) (h2 : zr a2) (h3 : zr a3) : zO (fL_30 (zKn i) a1 a2 a3 M) (fun M' => ∃ L' E', zInv i L' M' E') := by
  unfold fL_30
  rw [e_X10_ford, e_X11_ford]
  exact zP2_q (p_ford hI h1 h2 h3)
def fL_31 (k : zK) (a1 : Int) (a2 : Int) (M0 : zM) : Option zM :=
  zbd (f_X10_ends k 1 a1 a2 M0) (fun M2 v1 => zbd (f_X11_ends k 76 a1 a2 M2) (fun M4 v3 => zeq v1 v3 (some M4)))
theorem vL_31 {κ : zC} {w : zW} (hw : zWk w) {b Ln : Nat} {xs : Nat → Int32} (hX : zSc κ b Ln xs) (hx1 : ztag w.1 1 = 11) (hm1 : ztag w.1 76 = 12) (n0 n1 : Nat) (i3 : Int) (hi : 0 ≤ i3 ∧ i3 + 6 ≤ (Ln : Int)) (a1 : Int) (a2 : Int) (ha1 : (xs (i3 + 1).toNat).toInt = a1) (ha2 : (xs (i3 + 2).toNat).toInt = a2) (M0 : zM) (E : zM → Prop) (hE : ∀ M, E M → zB cL_law RL 4 (some .boolean) κ w (n0, n1, 1000) 1700 [(3, iv i3), (1, rn w 1), (2, rn w 76), (0, Value.ref b)] [] M) :
    zV cL_law RL 4 (some .boolean) κ w (n0, n1, 1000) 1437 [(3, iv i3), (1, rn w 1), (2, rn w 76), (0, Value.ref b)] [] M0 (fL_31 w.1 a1 a2 M0) E := by
  have hT := hw.1
  unfold fL_31
  refine zv_rload_n dL_law_1437 1 rfl ?_
  refine zv_aload_n dL_law_1438 3 rfl ?_
  refine zv_iload_n dL_law_1439 0 rfl ?_
  refine zv_iconst (z := 1) dL_law_1440 ?_
  refine zv_iadd dL_law_1441 ?_
  refine zv_sld hX (by omega) ha1 dL_law_1442 ?_
  refine zv_aload_n dL_law_1443 3 rfl ?_
  refine zv_iload_n dL_law_1444 0 rfl ?_
  refine zv_iconst (z := 2) dL_law_1445 ?_
  refine zv_iadd dL_law_1446 ?_
  refine zv_sld hX (by omega) ha2 dL_law_1447 ?_
  refine (zv_callVi [iv a1, iv a2] (c_X10_ends κ.2.1 hw 1 a1 a2 M0 hx1) zmd_X10_ends zwI_X10_ends zwS_X10_ends zwM_RL_148 zcd_10 hx1 rfl (Nat.le_of_ble_eq_true rfl) rfl (Nat.le_of_ble_eq_true rfl) dL_law_1448 (fun M2 v1 _ => ?_))
  refine zv_rload_n dL_law_1451 2 rfl ?_
  refine zv_aload_n dL_law_1452 3 rfl ?_
  refine zv_iload_n dL_law_1453 0 rfl ?_
  refine zv_iconst (z := 1) dL_law_1454 ?_
  refine zv_iadd dL_law_1455 ?_
  refine zv_sld hX (by omega) ha1 dL_law_1456 ?_
  refine zv_aload_n dL_law_1457 3 rfl ?_
  refine zv_iload_n dL_law_1458 0 rfl ?_
  refine zv_iconst (z := 2) dL_law_1459 ?_
  refine zv_iadd dL_law_1460 ?_
  refine zv_sld hX (by omega) ha2 dL_law_1461 ?_
  refine (zv_callVi [iv a1, iv a2] (c_X11_ends κ.2.1 hw 76 a1 a2 M2 hm1) zmd_X11_ends zwI_X11_ends zwS_X11_ends zwM_RL_151 zcd_11 hm1 rfl (Nat.le_of_ble_eq_true rfl) rfl (Nat.le_of_ble_eq_true rfl) dL_law_1462 (fun M4 v3 _ => ?_))
  refine zv_icmp_z (tgt := 1700) dL_law_1465 (by decide) ?_
  exact zv_sub (L' := [(3, iv i3), (1, rn w 1), (2, rn w 76), (0, Value.ref b)]) [0, 1, 2, 3] rfl (zv_exit (fun h => hE _ h))
theorem qL_31 {i L : Nat} {M : zM} {E : zE} {a1 a2 : Int} (hI : zInv i L M E) (h1 : zr a1) (h2 : zr a2) : zO (fL_31 (zKn i) a1 a2 M) (fun M' => ∃ L' E', zInv i L' M' E') := by
  unfold fL_31
  rw [e_X10_ends, e_X11_ends]
  exact zP2_q (p_ends hI h1 h2)
def fL_32 (k : zK) (a1 : Int) (a2 : Int) (a3 : Int) (a4 : Int) (M0 : zM) : Option zM :=
  zb1 (zbr a1 0 (a1 = 0) (some (0)) (some (1))) (fun x1 => zbd (f_X10_letter k 1 x1 a2 a3 a4 M0) (fun M3 v2 => zb1 (zbr a1 0 (a1 = 0) (some (0)) (some (1))) (fun x4 => zbd (f_X11_letter k 76 x4 a2 a3 a4 M3) (fun M6 v5 => zeq v2 v5 (some M6)))))
theorem vL_32 {κ : zC} {w : zW} (hw : zWk w) {b Ln : Nat} {xs : Nat → Int32} (hX : zSc κ b Ln xs) (hx1 : ztag w.1 1 = 11) (hm1 : ztag w.1 76 = 12) (n0 n1 : Nat) (i3 : Int) (hi : 0 ≤ i3 ∧ i3 + 6 ≤ (Ln : Int)) (a1 : Int) (a2 : Int) (a3 : Int) (a4 : Int) (ha1 : (xs (i3 + 1).toNat).toInt = a1) (ha2 : (xs (i3 + 2).toNat).toInt = a2) (ha3 : (xs (i3 + 3).toNat).toInt = a3) (ha4 : (xs (i3 + 4).toNat).toInt = a4) (M0 : zM) (E : zM → Prop) (hE : ∀ M, E M → zB cL_law RL 4 (some .boolean) κ w (n0, n1, 1000) 1700 [(3, iv i3), (1, rn w 1), (2, rn w 76), (0, Value.ref b)] [] M) :
    zV cL_law RL 4 (some .boolean) κ w (n0, n1, 1000) 1470 [(3, iv i3), (1, rn w 1), (2, rn w 76), (0, Value.ref b)] [] M0 (fL_32 w.1 a1 a2 a3 a4 M0) E := by
  have hT := hw.1
  unfold fL_32
  refine zv_rload_n dL_law_1470 1 rfl ?_
  refine zv_aload_n dL_law_1471 3 rfl ?_
  refine zv_iload_n dL_law_1472 0 rfl ?_
  refine zv_iconst (z := 1) dL_law_1473 ?_
  refine zv_iadd dL_law_1474 ?_
  refine zv_sld hX (by omega) ha1 dL_law_1475 ?_
  refine zv_join1 1484 (fun x1 => [(3, iv i3), (1, rn w 1), (2, rn w 76), (0, Value.ref b)]) (fun x1 => [iv x1, rn w 1]) (fun x1 => M0) ?_ (fun x1 => ?_)
  · refine zv_if_eq (tgt := 1483) dL_law_1476 (by decide) ?_ ?_
    · refine zv_iconst (z := 0) dL_law_1483 ?_
      exact zv_sub (L' := [(3, iv i3), (1, rn w 1), (2, rn w 76), (0, Value.ref b)]) [0, 1, 2, 3] rfl (zv_exit (fun h => h))
    refine zv_iconst (z := 1) dL_law_1479 ?_
    refine zv_goto (tgt := 1484) dL_law_1480 (by decide) ?_
    exact zv_sub (L' := [(3, iv i3), (1, rn w 1), (2, rn w 76), (0, Value.ref b)]) [0, 1, 2, 3] rfl (zv_exit (fun h => h))
  refine zv_aload_n dL_law_1484 3 rfl ?_
  refine zv_iload_n dL_law_1485 0 rfl ?_
  refine zv_iconst (z := 2) dL_law_1486 ?_
  refine zv_iadd dL_law_1487 ?_
  refine zv_sld hX (by omega) ha2 dL_law_1488 ?_
  refine zv_aload_n dL_law_1489 3 rfl ?_
  refine zv_iload_n dL_law_1490 0 rfl ?_
  refine zv_iconst (z := 3) dL_law_1491 ?_
  refine zv_iadd dL_law_1492 ?_
  refine zv_sld hX (by omega) ha3 dL_law_1493 ?_
  refine zv_aload_n dL_law_1494 3 rfl ?_
  refine zv_iload_n dL_law_1495 0 rfl ?_
  refine zv_iconst (z := 4) dL_law_1496 ?_
  refine zv_iadd dL_law_1497 ?_
  refine zv_sld hX (by omega) ha4 dL_law_1498 ?_
  refine (zv_callVi [iv x1, iv a2, iv a3, iv a4] (c_X10_letter κ.2.1 hw 1 x1 a2 a3 a4 M0 hx1) zmd_X10_letter zwI_X10_letter zwS_X10_letter zwM_RL_152 zcd_10 hx1 rfl (Nat.le_of_ble_eq_true rfl) rfl (Nat.le_of_ble_eq_true rfl) dL_law_1499 (fun M3 v2 _ => ?_))
  refine zv_rload_n dL_law_1502 2 rfl ?_
  refine zv_aload_n dL_law_1503 3 rfl ?_
  refine zv_iload_n dL_law_1504 0 rfl ?_
  refine zv_iconst (z := 1) dL_law_1505 ?_
  refine zv_iadd dL_law_1506 ?_
  refine zv_sld hX (by omega) ha1 dL_law_1507 ?_
  refine zv_join1 1516 (fun x4 => [(3, iv i3), (1, rn w 1), (2, rn w 76), (0, Value.ref b)]) (fun x4 => [iv x4, rn w 76, iv v2]) (fun x4 => M3) ?_ (fun x4 => ?_)
  · refine zv_if_eq (tgt := 1515) dL_law_1508 (by decide) ?_ ?_
    · refine zv_iconst (z := 0) dL_law_1515 ?_
      exact zv_sub (L' := [(3, iv i3), (1, rn w 1), (2, rn w 76), (0, Value.ref b)]) [0, 1, 2, 3] rfl (zv_exit (fun h => h))
    refine zv_iconst (z := 1) dL_law_1511 ?_
    refine zv_goto (tgt := 1516) dL_law_1512 (by decide) ?_
    exact zv_sub (L' := [(3, iv i3), (1, rn w 1), (2, rn w 76), (0, Value.ref b)]) [0, 1, 2, 3] rfl (zv_exit (fun h => h))
  refine zv_aload_n dL_law_1516 3 rfl ?_
  refine zv_iload_n dL_law_1517 0 rfl ?_
  refine zv_iconst (z := 2) dL_law_1518 ?_
  refine zv_iadd dL_law_1519 ?_
  refine zv_sld hX (by omega) ha2 dL_law_1520 ?_
  refine zv_aload_n dL_law_1521 3 rfl ?_
  refine zv_iload_n dL_law_1522 0 rfl ?_
  refine zv_iconst (z := 3) dL_law_1523 ?_
  refine zv_iadd dL_law_1524 ?_
  refine zv_sld hX (by omega) ha3 dL_law_1525 ?_
  refine zv_aload_n dL_law_1526 3 rfl ?_
  refine zv_iload_n dL_law_1527 0 rfl ?_
  refine zv_iconst (z := 4) dL_law_1528 ?_
  refine zv_iadd dL_law_1529 ?_
  refine zv_sld hX (by omega) ha4 dL_law_1530 ?_
  refine (zv_callVi [iv x4, iv a2, iv a3, iv a4] (c_X11_letter κ.2.1 hw 76 x4 a2 a3 a4 M3 hm1) zmd_X11_letter zwI_X11_letter zwS_X11_letter zwM_RL_156 zcd_11 hm1 rfl (Nat.le_of_ble_eq_true rfl) rfl (Nat.le_of_ble_eq_true rfl) dL_law_1531 (fun M6 v5 _ => ?_))
  refine zv_icmp_z (tgt := 1700) dL_law_1534 (by decide) ?_
  exact zv_sub (L' := [(3, iv i3), (1, rn w 1), (2, rn w 76), (0, Value.ref b)]) [0, 1, 2, 3] rfl (zv_exit (fun h => hE _ h))
theorem qL_32 {i L : Nat} {M : zM} {E : zE} {a1 a2 a3 a4 : Int} (hI : zInv i L M E) (h1 : zr a1) (h2 : zr a2) (h3 : zr a3) (h4 : zr a4) : zO (fL_32 (zKn i) a1 a2 a3 a4 M) (fun M' => ∃ L' E', zInv i L' M' E') := by
  unfold fL_32
  simp only [zflag h1, zb1_s]
  rw [e_X10_letter, e_X11_letter]
  exact zP2_q (p_letter hI zflag01 h2 h3 h4)
def fL_33 (k : zK) (a1 : Int) (a2 : Int) (M0 : zM) : Option zM :=
  zb1 (f_X10_levels k 1 a1 a2 M0) (fun v1 => zb1 (f_X11_levels k 76 a1 a2 M0) (fun v3 => zeq v1 v3 (some M0)))
theorem vL_33 {κ : zC} {w : zW} (hw : zWk w) {b Ln : Nat} {xs : Nat → Int32} (hX : zSc κ b Ln xs) (hx1 : ztag w.1 1 = 11) (hm1 : ztag w.1 76 = 12) (n0 n1 : Nat) (i3 : Int) (hi : 0 ≤ i3 ∧ i3 + 6 ≤ (Ln : Int)) (a1 : Int) (a2 : Int) (ha1 : (xs (i3 + 1).toNat).toInt = a1) (ha2 : (xs (i3 + 2).toNat).toInt = a2) (M0 : zM) (E : zM → Prop) (hE : ∀ M, E M → zB cL_law RL 4 (some .boolean) κ w (n0, n1, 1000) 1700 [(3, iv i3), (1, rn w 1), (2, rn w 76), (0, Value.ref b)] [] M) :
    zV cL_law RL 4 (some .boolean) κ w (n0, n1, 1000) 1539 [(3, iv i3), (1, rn w 1), (2, rn w 76), (0, Value.ref b)] [] M0 (fL_33 w.1 a1 a2 M0) E := by
  have hT := hw.1
  unfold fL_33
  refine zv_rload_n dL_law_1539 1 rfl ?_
  refine zv_aload_n dL_law_1540 3 rfl ?_
  refine zv_iload_n dL_law_1541 0 rfl ?_
  refine zv_iconst (z := 1) dL_law_1542 ?_
  refine zv_iadd dL_law_1543 ?_
  refine zv_sld hX (by omega) ha1 dL_law_1544 ?_
  refine zv_aload_n dL_law_1545 3 rfl ?_
  refine zv_iload_n dL_law_1546 0 rfl ?_
  refine zv_iconst (z := 2) dL_law_1547 ?_
  refine zv_iadd dL_law_1548 ?_
  refine zv_sld hX (by omega) ha2 dL_law_1549 ?_
  refine zv_pc (zv_callVi [iv a1, iv a2] (c_X10_levels κ.2.1 hw 1 a1 a2 M0 hx1) zmd_X10_levels zwI_X10_levels zwS_X10_levels zwM_RL_157 zcd_10 hx1 rfl (Nat.le_of_ble_eq_true rfl) rfl (Nat.le_of_ble_eq_true rfl) dL_law_1550 (fun mh2 v1 h2 => ?_))
  obtain rfl := zpuE h2
  refine zv_rload_n dL_law_1553 2 rfl ?_
  refine zv_aload_n dL_law_1554 3 rfl ?_
  refine zv_iload_n dL_law_1555 0 rfl ?_
  refine zv_iconst (z := 1) dL_law_1556 ?_
  refine zv_iadd dL_law_1557 ?_
  refine zv_sld hX (by omega) ha1 dL_law_1558 ?_
  refine zv_aload_n dL_law_1559 3 rfl ?_
  refine zv_iload_n dL_law_1560 0 rfl ?_
  refine zv_iconst (z := 2) dL_law_1561 ?_
  refine zv_iadd dL_law_1562 ?_
  refine zv_sld hX (by omega) ha2 dL_law_1563 ?_
  refine zv_pc (zv_callVi [iv a1, iv a2] (c_X11_levels κ.2.1 hw 76 a1 a2 M0 hm1) zmd_X11_levels zwI_X11_levels zwS_X11_levels zwM_RL_160 zcd_11 hm1 rfl (Nat.le_of_ble_eq_true rfl) rfl (Nat.le_of_ble_eq_true rfl) dL_law_1564 (fun mh4 v3 h4 => ?_))
  obtain rfl := zpuE h4
  refine zv_icmp_z (tgt := 1700) dL_law_1567 (by decide) ?_
  exact zv_sub (L' := [(3, iv i3), (1, rn w 1), (2, rn w 76), (0, Value.ref b)]) [0, 1, 2, 3] rfl (zv_exit (fun h => hE _ h))
theorem qL_33 {i L : Nat} {M : zM} {E : zE} {a1 a2 : Int} (hI : zInv i L M E) (h1 : zr a1) (h2 : zr a2) : zO (fL_33 (zKn i) a1 a2 M) (fun M' => ∃ L' E', zInv i L' M' E') := by
  unfold fL_33
  rw [e_X10_levels, e_X11_levels]
  exact zP0_q hI (p_levels hI h1 h2)
def fL_34 (k : zK) (a1 : Int) (M0 : zM) : Option zM :=
  zb1 (f_X10_fits k 1 a1 M0) (fun v1 => zbd (f_X11_fits k 76 a1 M0) (fun M4 v3 => zeq v1 v3 (some M4)))
theorem vL_34 {κ : zC} {w : zW} (hw : zWk w) {b Ln : Nat} {xs : Nat → Int32} (hX : zSc κ b Ln xs) (hx1 : ztag w.1 1 = 11) (hm1 : ztag w.1 76 = 12) (n0 n1 : Nat) (i3 : Int) (hi : 0 ≤ i3 ∧ i3 + 6 ≤ (Ln : Int)) (a1 : Int) (ha1 : (xs (i3 + 1).toNat).toInt = a1) (M0 : zM) (E : zM → Prop) (hE : ∀ M, E M → zB cL_law RL 4 (some .boolean) κ w (n0, n1, 1000) 1700 [(3, iv i3), (1, rn w 1), (2, rn w 76), (0, Value.ref b)] [] M) :
    zV cL_law RL 4 (some .boolean) κ w (n0, n1, 1000) 1572 [(3, iv i3), (1, rn w 1), (2, rn w 76), (0, Value.ref b)] [] M0 (fL_34 w.1 a1 M0) E := by
  have hT := hw.1
  unfold fL_34
  refine zv_rload_n dL_law_1572 1 rfl ?_
  refine zv_aload_n dL_law_1573 3 rfl ?_
  refine zv_iload_n dL_law_1574 0 rfl ?_
  refine zv_iconst (z := 1) dL_law_1575 ?_
  refine zv_iadd dL_law_1576 ?_
  refine zv_sld hX (by omega) ha1 dL_law_1577 ?_
  refine zv_pc (zv_callVi [iv a1] (c_X10_fits κ.2.1 hw 1 a1 M0 hx1) zmd_X10_fits zwI_X10_fits zwS_X10_fits zwM_RL_161 zcd_10 hx1 rfl (Nat.le_of_ble_eq_true rfl) rfl (Nat.le_of_ble_eq_true rfl) dL_law_1578 (fun mh2 v1 h2 => ?_))
  obtain rfl := zpuE h2
  refine zv_rload_n dL_law_1581 2 rfl ?_
  refine zv_aload_n dL_law_1582 3 rfl ?_
  refine zv_iload_n dL_law_1583 0 rfl ?_
  refine zv_iconst (z := 1) dL_law_1584 ?_
  refine zv_iadd dL_law_1585 ?_
  refine zv_sld hX (by omega) ha1 dL_law_1586 ?_
  refine (zv_callVi [iv a1] (c_X11_fits κ.2.1 hw 76 a1 M0 hm1) zmd_X11_fits zwI_X11_fits zwS_X11_fits zwM_RL_164 zcd_11 hm1 rfl (Nat.le_of_ble_eq_true rfl) rfl (Nat.le_of_ble_eq_true rfl) dL_law_1587 (fun M4 v3 _ => ?_))
  refine zv_icmp_z (tgt := 1700) dL_law_1590 (by decide) ?_
  exact zv_sub (L' := [(3, iv i3), (1, rn w 1), (2, rn w 76), (0, Value.ref b)]) [0, 1, 2, 3] rfl (zv_exit (fun h => hE _ h))
theorem qL_34 {i L : Nat} {M : zM} {E : zE} {a1 : Int} (hI : zInv i L M E) (h1 : zr a1) : zO (fL_34 (zKn i) a1 M) (fun M' => ∃ L' E', zInv i L' M' E') := by
  unfold fL_34
  rw [e_X10_fits, e_X11_fits]
  exact zP1_q (p_fits hI h1)
def fL_35 (k : zK) (a1 : Int) (M0 : zM) : Option zM :=
  zbd (f_X10_unlike k 1 a1 M0) (fun M2 v1 => zbd (f_X11_unlike k 76 a1 M2) (fun M4 v3 => zeq v1 v3 (some M4)))
theorem vL_35 {κ : zC} {w : zW} (hw : zWk w) {b Ln : Nat} {xs : Nat → Int32} (hX : zSc κ b Ln xs) (hx1 : ztag w.1 1 = 11) (hm1 : ztag w.1 76 = 12) (n0 n1 : Nat) (i3 : Int) (hi : 0 ≤ i3 ∧ i3 + 6 ≤ (Ln : Int)) (a1 : Int) (ha1 : (xs (i3 + 1).toNat).toInt = a1) (M0 : zM) (E : zM → Prop) (hE : ∀ M, E M → zB cL_law RL 4 (some .boolean) κ w (n0, n1, 1000) 1700 [(3, iv i3), (1, rn w 1), (2, rn w 76), (0, Value.ref b)] [] M) :
    zV cL_law RL 4 (some .boolean) κ w (n0, n1, 1000) 1595 [(3, iv i3), (1, rn w 1), (2, rn w 76), (0, Value.ref b)] [] M0 (fL_35 w.1 a1 M0) E := by
  have hT := hw.1
  unfold fL_35
  refine zv_rload_n dL_law_1595 1 rfl ?_
  refine zv_aload_n dL_law_1596 3 rfl ?_
  refine zv_iload_n dL_law_1597 0 rfl ?_
  refine zv_iconst (z := 1) dL_law_1598 ?_
  refine zv_iadd dL_law_1599 ?_
  refine zv_sld hX (by omega) ha1 dL_law_1600 ?_
  refine (zv_callVi [iv a1] (c_X10_unlike κ.2.1 hw 1 a1 M0 hx1) zmd_X10_unlike zwI_X10_unlike zwS_X10_unlike zwM_RL_165 zcd_10 hx1 rfl (Nat.le_of_ble_eq_true rfl) rfl (Nat.le_of_ble_eq_true rfl) dL_law_1601 (fun M2 v1 _ => ?_))
  refine zv_rload_n dL_law_1604 2 rfl ?_
  refine zv_aload_n dL_law_1605 3 rfl ?_
  refine zv_iload_n dL_law_1606 0 rfl ?_
  refine zv_iconst (z := 1) dL_law_1607 ?_
  refine zv_iadd dL_law_1608 ?_
  refine zv_sld hX (by omega) ha1 dL_law_1609 ?_
  refine (zv_callVi [iv a1] (c_X11_unlike κ.2.1 hw 76 a1 M2 hm1) zmd_X11_unlike zwI_X11_unlike zwS_X11_unlike zwM_RL_168 zcd_11 hm1 rfl (Nat.le_of_ble_eq_true rfl) rfl (Nat.le_of_ble_eq_true rfl) dL_law_1610 (fun M4 v3 _ => ?_))
  refine zv_icmp_z (tgt := 1700) dL_law_1613 (by decide) ?_
  exact zv_sub (L' := [(3, iv i3), (1, rn w 1), (2, rn w 76), (0, Value.ref b)]) [0, 1, 2, 3] rfl (zv_exit (fun h => hE _ h))
theorem qL_35 {i L : Nat} {M : zM} {E : zE} {a1 : Int} (hI : zInv i L M E) (h1 : zr a1) : zO (fL_35 (zKn i) a1 M) (fun M' => ∃ L' E', zInv i L' M' E') := by
  unfold fL_35
  rw [e_X10_unlike, e_X11_unlike]
  exact zP2_q (p_unlike hI h1)
def fL_36 (k : zK) (a1 : Int) (M0 : zM) : Option zM :=
  zbd (f_X10_doubt k 1 a1 M0) (fun M2 v1 => zbd (f_X11_doubt k 76 a1 M2) (fun M4 v3 => zeq v1 v3 (some M4)))
theorem vL_36 {κ : zC} {w : zW} (hw : zWk w) {b Ln : Nat} {xs : Nat → Int32} (hX : zSc κ b Ln xs) (hx1 : ztag w.1 1 = 11) (hm1 : ztag w.1 76 = 12) (n0 n1 : Nat) (i3 : Int) (hi : 0 ≤ i3 ∧ i3 + 6 ≤ (Ln : Int)) (a1 : Int) (ha1 : (xs (i3 + 1).toNat).toInt = a1) (M0 : zM) (E : zM → Prop) (hE : ∀ M, E M → zB cL_law RL 4 (some .boolean) κ w (n0, n1, 1000) 1700 [(3, iv i3), (1, rn w 1), (2, rn w 76), (0, Value.ref b)] [] M) :
    zV cL_law RL 4 (some .boolean) κ w (n0, n1, 1000) 1618 [(3, iv i3), (1, rn w 1), (2, rn w 76), (0, Value.ref b)] [] M0 (fL_36 w.1 a1 M0) E := by
  have hT := hw.1
  unfold fL_36
  refine zv_rload_n dL_law_1618 1 rfl ?_
  refine zv_aload_n dL_law_1619 3 rfl ?_
  refine zv_iload_n dL_law_1620 0 rfl ?_
  refine zv_iconst (z := 1) dL_law_1621 ?_
  refine zv_iadd dL_law_1622 ?_
  refine zv_sld hX (by omega) ha1 dL_law_1623 ?_
  refine (zv_callVi [iv a1] (c_X10_doubt κ.2.1 hw 1 a1 M0 hx1) zmd_X10_doubt zwI_X10_doubt zwS_X10_doubt zwM_RL_169 zcd_10 hx1 rfl (Nat.le_of_ble_eq_true rfl) rfl (Nat.le_of_ble_eq_true rfl) dL_law_1624 (fun M2 v1 _ => ?_))
  refine zv_rload_n dL_law_1627 2 rfl ?_
  refine zv_aload_n dL_law_1628 3 rfl ?_
  refine zv_iload_n dL_law_1629 0 rfl ?_
  refine zv_iconst (z := 1) dL_law_1630 ?_
  refine zv_iadd dL_law_1631 ?_
  refine zv_sld hX (by omega) ha1 dL_law_1632 ?_
  refine (zv_callVi [iv a1] (c_X11_doubt κ.2.1 hw 76 a1 M2 hm1) zmd_X11_doubt zwI_X11_doubt zwS_X11_doubt zwM_RL_172 zcd_11 hm1 rfl (Nat.le_of_ble_eq_true rfl) rfl (Nat.le_of_ble_eq_true rfl) dL_law_1633 (fun M4 v3 _ => ?_))
  refine zv_icmp_z (tgt := 1700) dL_law_1636 (by decide) ?_
  exact zv_sub (L' := [(3, iv i3), (1, rn w 1), (2, rn w 76), (0, Value.ref b)]) [0, 1, 2, 3] rfl (zv_exit (fun h => hE _ h))
theorem qL_36 {i L : Nat} {M : zM} {E : zE} {a1 : Int} (hI : zInv i L M E) (h1 : zr a1) : zO (fL_36 (zKn i) a1 M) (fun M' => ∃ L' E', zInv i L' M' E') := by
  unfold fL_36
  rw [e_X10_doubt, e_X11_doubt]
  exact zP2_q (p_doubt hI h1)
def fL_38 (k : zK) (a1 : Int) (M0 : zM) : Option zM :=
  zbd (f_X10_restore k 1 a1 M0) (fun M2 v1 => zbd (f_X11_restore k 76 a1 M2) (fun M4 v3 => zeq v1 v3 (some M4)))
theorem vL_38 {κ : zC} {w : zW} (hw : zWk w) {b Ln : Nat} {xs : Nat → Int32} (hX : zSc κ b Ln xs) (hx1 : ztag w.1 1 = 11) (hm1 : ztag w.1 76 = 12) (n0 n1 : Nat) (i3 : Int) (hi : 0 ≤ i3 ∧ i3 + 6 ≤ (Ln : Int)) (a1 : Int) (ha1 : (xs (i3 + 1).toNat).toInt = a1) (M0 : zM) (E : zM → Prop) (hE : ∀ M, E M → zB cL_law RL 4 (some .boolean) κ w (n0, n1, 1000) 1700 [(3, iv i3), (1, rn w 1), (2, rn w 76), (0, Value.ref b)] [] M) :
    zV cL_law RL 4 (some .boolean) κ w (n0, n1, 1000) 1654 [(3, iv i3), (1, rn w 1), (2, rn w 76), (0, Value.ref b)] [] M0 (fL_38 w.1 a1 M0) E := by
  have hT := hw.1
  unfold fL_38
  refine zv_rload_n dL_law_1654 1 rfl ?_
  refine zv_aload_n dL_law_1655 3 rfl ?_
  refine zv_iload_n dL_law_1656 0 rfl ?_
  refine zv_iconst (z := 1) dL_law_1657 ?_
  refine zv_iadd dL_law_1658 ?_
  refine zv_sld hX (by omega) ha1 dL_law_1659 ?_
  refine (zv_callVi [iv a1] (c_X10_restore κ.2.1 hw 1 a1 M0 hx1) zmd_X10_restore zwI_X10_restore zwS_X10_restore zwM_RL_177 zcd_10 hx1 rfl (Nat.le_of_ble_eq_true rfl) rfl (Nat.le_of_ble_eq_true rfl) dL_law_1660 (fun M2 v1 _ => ?_))
  refine zv_rload_n dL_law_1663 2 rfl ?_
  refine zv_aload_n dL_law_1664 3 rfl ?_
  refine zv_iload_n dL_law_1665 0 rfl ?_
  refine zv_iconst (z := 1) dL_law_1666 ?_
  refine zv_iadd dL_law_1667 ?_
  refine zv_sld hX (by omega) ha1 dL_law_1668 ?_
  refine (zv_callVi [iv a1] (c_X11_restore κ.2.1 hw 76 a1 M2 hm1) zmd_X11_restore zwI_X11_restore zwS_X11_restore zwM_RL_181 zcd_11 hm1 rfl (Nat.le_of_ble_eq_true rfl) rfl (Nat.le_of_ble_eq_true rfl) dL_law_1669 (fun M4 v3 _ => ?_))
  refine zv_icmp_z (tgt := 1700) dL_law_1672 (by decide) ?_
  exact zv_sub (L' := [(3, iv i3), (1, rn w 1), (2, rn w 76), (0, Value.ref b)]) [0, 1, 2, 3] rfl (zv_exit (fun h => hE _ h))
theorem qL_38 {i L : Nat} {M : zM} {E : zE} {a1 : Int} (hI : zInv i L M E) (h1 : zr a1) : zO (fL_38 (zKn i) a1 M) (fun M' => ∃ L' E', zInv i L' M' E') := by
  unfold fL_38
  rw [e_X10_restore, e_X11_restore]
  exact zP2_q (p_restore hI h1)
def fL_39 (k : zK) (a1 : Int) (M0 : zM) : Option zM :=
  zb1 (f_X10_count k 1 a1 M0) (fun v1 => zb1 (f_X11_count k 76 a1 M0) (fun v3 => zeq v1 v3 (some M0)))
theorem vL_39 {κ : zC} {w : zW} (hw : zWk w) {b Ln : Nat} {xs : Nat → Int32} (hX : zSc κ b Ln xs) (hx1 : ztag w.1 1 = 11) (hm1 : ztag w.1 76 = 12) (n0 n1 : Nat) (i3 : Int) (hi : 0 ≤ i3 ∧ i3 + 6 ≤ (Ln : Int)) (a1 : Int) (ha1 : (xs (i3 + 1).toNat).toInt = a1) (M0 : zM) (E : zM → Prop) (hE : ∀ M, E M → zB cL_law RL 4 (some .boolean) κ w (n0, n1, 1000) 1700 [(3, iv i3), (1, rn w 1), (2, rn w 76), (0, Value.ref b)] [] M) :
    zV cL_law RL 4 (some .boolean) κ w (n0, n1, 1000) 1677 [(3, iv i3), (1, rn w 1), (2, rn w 76), (0, Value.ref b)] [] M0 (fL_39 w.1 a1 M0) E := by
  have hT := hw.1
  unfold fL_39
  refine zv_rload_n dL_law_1677 1 rfl ?_
  refine zv_aload_n dL_law_1678 3 rfl ?_
  refine zv_iload_n dL_law_1679 0 rfl ?_
  refine zv_iconst (z := 1) dL_law_1680 ?_
  refine zv_iadd dL_law_1681 ?_
  refine zv_sld hX (by omega) ha1 dL_law_1682 ?_
  refine zv_pc (zv_callVi [iv a1] (c_X10_count κ.2.1 hw 1 a1 M0 hx1) zmd_X10_count zwI_X10_count zwS_X10_count zwM_RL_182 zcd_10 hx1 rfl (Nat.le_of_ble_eq_true rfl) rfl (Nat.le_of_ble_eq_true rfl) dL_law_1683 (fun mh2 v1 h2 => ?_))
  obtain rfl := zpuE h2
  refine zv_rload_n dL_law_1686 2 rfl ?_
  refine zv_aload_n dL_law_1687 3 rfl ?_
  refine zv_iload_n dL_law_1688 0 rfl ?_
  refine zv_iconst (z := 1) dL_law_1689 ?_
  refine zv_iadd dL_law_1690 ?_
  refine zv_sld hX (by omega) ha1 dL_law_1691 ?_
  refine zv_pc (zv_callVi [iv a1] (c_X11_count κ.2.1 hw 76 a1 M0 hm1) zmd_X11_count zwI_X11_count zwS_X11_count zwM_RL_185 zcd_11 hm1 rfl (Nat.le_of_ble_eq_true rfl) rfl (Nat.le_of_ble_eq_true rfl) dL_law_1692 (fun mh4 v3 h4 => ?_))
  obtain rfl := zpuE h4
  refine zv_icmp_z (tgt := 1700) dL_law_1695 (by decide) ?_
  exact zv_sub (L' := [(3, iv i3), (1, rn w 1), (2, rn w 76), (0, Value.ref b)]) [0, 1, 2, 3] rfl (zv_exit (fun h => hE _ h))
theorem qL_39 {i L : Nat} {M : zM} {E : zE} {a1 : Int} (hI : zInv i L M E) (h1 : zr a1) : zO (fL_39 (zKn i) a1 M) (fun M' => ∃ L' E', zInv i L' M' E') := by
  unfold fL_39
  rw [e_X10_count, e_X11_count]
  exact zP0_q hI (p_count hI h1)

/-! the start: cells by names -/
theorem zad1 (l : List Nat) (adK adV : Nat → Nat) {x y n : Nat} (h1 : 128 < x) (h2 : x + n ≤ y) : ∃ ad : Nat → Nat, (∀ r, r < 128 → ad (r + 1) = l.getD r 0) ∧ (∀ i, i < n → ad (x + i) = adK i) ∧ (∀ i, i < n → ad (y + i) = adV i) := ⟨fun r => if r < x then l.getD (r - 1) 0 else if r < y then adK (r - x) else adV (r - y), fun r hr => by show (if r + 1 < x then _ else _) = _; rw [if_pos (by omega), Nat.add_sub_cancel], fun i hi => by show (if x + i < x then _ else if x + i < y then _ else _) = _; rw [if_neg (by omega), if_pos (by omega), Nat.add_sub_cancel_left], fun i hi => by show (if y + i < x then _ else if y + i < y then _ else _) = _; rw [if_neg (by omega), if_neg (by omega), Nat.add_sub_cancel_left]⟩
theorem zad (l : List Nat) (adK adV : Nat → Nat) : ∃ ad : Nat → Nat, (∀ r, r < 128 → ad (r + 1) = l.getD r 0) ∧ (∀ i, i < zsn → ad (1000000 + i) = adK i) ∧ (∀ i, i < zsn → ad (2000000 + i) = adV i) := zad1 l adK adV (by omega) (show 1000000 + 22 ≤ 2000000 by omega)
theorem zkA {q q' : Nat} {c c' : ClassId} {x : vp_A} (h : q = q') (g : c = c') : ((q, .inl (c, x)) : Nat × va_E) = (q', .inl (c', x)) := by rw [h, g]
theorem zkO {q q' n : Nat} {L L' : List Value} (h : q = q') (g : L = L') : ((q, .inr (n, L)) : Nat × va_E) = (q', .inr (n, L')) := by rw [h, g]
theorem zkc {α : Type} {a b : α} {L L' : List α} (h : a = b) (g : L = L') : a :: L = b :: L' := by rw [h, g]
set_option maxRecDepth 100000 in
set_option maxHeartbeats 8000000 in
theorem zfin {s : State} {A : Nat → Prop} {dC : Nat → ClassId} {dI : Nat → Nat → Nat} {H : Heap} {adK adV : Nat → Nat} {g2 g3 g144 g145 : Nat → Int32} {q1 q5 q6 q8 q9 q13 q17 q19 q21 q23 q25 q27 q29 q31 q33 q35 q37 q11 q15 q39 q41 q42 q44 q46 q47 q49 q51 q53 q55 q57 q59 q61 q63 q65 q67 q69 q71 q73 q75 q76 q78 q80 q82 q83 q85 q87 q88 q90 q92 q94 q95 q97 q98 q100 q102 q104 q106 q108 q110 q112 q114 q116 q118 q120 q121 q123 q125 q127 q129 q131 q133 q135 q137 q139 q141 q143 q147 q149 q151 q153 q155 q157 q159 q161 q163 q165 q167 q169 q171 q173 q175 q177 q179 q181 q183 q185 q187 q189 q191 q193 q195 q197 q199 q201 q203 q205 q207 q209 q211 q213 q215 q217 q219 q221 q223 q225 q227 q229 q231 q233 q235 q237 q239 q241 q243 q245 q247 q249 : Nat} {c7 c10 c12 c14 c16 c18 c20 c22 c24 c26 c28 c30 c32 c34 c36 c38 c40 c43 c45 c48 c50 c52 c54 c56 c58 c60 c62 c64 c66 c68 c70 c72 c74 c77 c79 c81 c84 c86 c89 c91 c93 c96 c99 c101 c103 c105 c107 c109 c111 c113 c115 c117 c119 c122 c124 c126 c128 c130 c132 c134 c136 c138 c140 c142 c148 c150 c152 c154 c156 c158 c160 c162 c164 c166 c168 c170 c172 c174 c176 c178 c180 c182 c184 c186 c188 c190 c192 c194 c196 c198 c200 c202 c204 c206 c208 c210 c212 c214 c216 c218 c220 c222 c224 c226 c228 c230 c232 c234 c236 c238 c240 c242 c244 c246 c248 c250 : ClassId} (hP : va_P (dC, dI) zcl ((q1, .inr (10, [.ref q5, .ref q8, .ref q39, .ref q41, .ref q46, .ref q75, .ref q82, .ref q87, .ref q94, .ref q95, .ref q97, .ref q120, .int (-1), .int 0, .int 1])) :: (q5, .inr (6, [.ref q6, .int 0, .int 0, .int 0, .int 0, .int 0, .int 0, .int 0])) :: (q6, .inl (c7, 700, .inl (fun _ => 0))) :: (q8, .inr (7, [.ref q9, .ref q11, .ref q13, .ref q15, .ref q17, .ref q19, .ref q21, .ref q23, .ref q25, .ref q27, .ref q29, .ref q31, .ref q33, .ref q35, .ref q37, .int 0, .int 0, .int 0, .int 0, .int 0])) :: (q9, .inl (c10, 256, .inl (fun _ => 0))) :: (q13, .inl (c14, 256, .inl (fun _ => 0))) :: (q17, .inl (c18, 16, .inl (fun _ => 0))) :: (q19, .inl (c20, 16, .inl (fun _ => 0))) :: (q21, .inl (c22, 60, .inl (fun _ => 0))) :: (q23, .inl (c24, 60, .inl (fun _ => 0))) :: (q25, .inl (c26, 60, .inl (fun _ => 0))) :: (q27, .inl (c28, 60, .inl (fun _ => 0))) :: (q29, .inl (c30, 10, .inl (fun _ => 0))) :: (q31, .inl (c32, 40, .inl (fun _ => 0))) :: (q33, .inl (c34, 40, .inl (fun _ => 0))) :: (q35, .inl (c36, 40, .inl (fun _ => 0))) :: (q37, .inl (c38, 40, .inl (fun _ => 0))) :: (q11, .inl (c12, 256, .inl g2)) :: (q15, .inl (c16, 256, .inl g3)) :: (q39, .inl (c40, 3, .inr (.inr (.inr (.inr (fun _ => none)))))) :: (q41, .inr (8, [.ref q42, .ref q44, .ref q46, .ref q69, .ref q71, .ref q73, .int (-1)])) :: (q42, .inl (c43, 256, .inl (fun _ => 0))) :: (q44, .inl (c45, 256, .inl (fun _ => 0))) :: (q46, .inr (2, [.ref q47, .ref q49, .ref q51, .ref q53, .ref q55, .ref q57, .ref q59, .ref q61, .ref q63, .ref q65, .ref q67])) :: (q47, .inl (c48, 256, .inl (fun _ => 0))) :: (q49, .inl (c50, 256, .inl (fun _ => 0))) :: (q51, .inl (c52, 256, .inl (fun _ => 0))) :: (q53, .inl (c54, 256, .inl (fun _ => 0))) :: (q55, .inl (c56, 256, .inl (fun _ => 0))) :: (q57, .inl (c58, 256, .inl (fun _ => 0))) :: (q59, .inl (c60, 256, .inl (fun _ => 0))) :: (q61, .inl (c62, 256, .inl (fun _ => 0))) :: (q63, .inl (c64, 256, .inl (fun _ => 0))) :: (q65, .inl (c66, 200, .inl (fun _ => 0))) :: (q67, .inl (c68, 8, .inl (fun _ => 0))) :: (q69, .inl (c70, 256, .inl (fun _ => 0))) :: (q71, .inl (c72, 8, .inl (fun _ => 0))) :: (q73, .inl (c74, 16, .inl (fun _ => 0))) :: (q75, .inr (4, [.ref q76, .ref q78, .ref q80])) :: (q76, .inl (c77, 100, .inl (fun _ => 0))) :: (q78, .inl (c79, 25600, .inl (fun _ => 0))) :: (q80, .inl (c81, 100, .inl (fun _ => 0))) :: (q82, .inr (1, [.ref q83, .ref q85])) :: (q83, .inl (c84, 256, .inl (fun _ => 0))) :: (q85, .inl (c86, 256, .inl (fun _ => 0))) :: (q87, .inr (9, [.ref q88, .long 1000000, .ref q90, .ref q92, .int 0, .int 0, .int (-1)])) :: (q88, .inl (c89, 10, .inl (fun _ => 0))) :: (q90, .inl (c91, 10, .inl (fun _ => 0))) :: (q92, .inl (c93, 70, .inr (.inl (fun _ => 0)))) :: (q94, .inr (5, [.long 0, .long 1])) :: (q95, .inl (c96, 3, .inl (fun _ => 0))) :: (q97, .inr (3, [.int 0, .int 0, .ref q98, .ref q100, .ref q102, .ref q104, .ref q106, .int 0, .ref q108, .ref q110, .ref q112, .ref q114, .ref q116, .int 0, .ref q118])) :: (q98, .inl (c99, 40, .inl (fun _ => 0))) :: (q100, .inl (c101, 40, .inl (fun _ => 0))) :: (q102, .inl (c103, 40, .inl (fun _ => 0))) :: (q104, .inl (c105, 40, .inl (fun _ => 0))) :: (q106, .inl (c107, 700, .inl (fun _ => 0))) :: (q108, .inl (c109, 100, .inl (fun _ => 0))) :: (q110, .inl (c111, 100, .inl (fun _ => 0))) :: (q112, .inl (c113, 100, .inl (fun _ => 0))) :: (q114, .inl (c115, 100, .inl (fun _ => 0))) :: (q116, .inl (c117, 100, .inl (fun _ => 0))) :: (q118, .inl (c119, 3, .inl (fun _ => 0))) :: (q120, .inr (3, [.int 0, .int 0, .ref q121, .ref q123, .ref q125, .ref q127, .ref q129, .int 0, .ref q131, .ref q133, .ref q135, .ref q137, .ref q139, .int 0, .ref q141])) :: (q121, .inl (c122, 40, .inl (fun _ => 0))) :: (q123, .inl (c124, 40, .inl (fun _ => 0))) :: (q125, .inl (c126, 40, .inl (fun _ => 0))) :: (q127, .inl (c128, 40, .inl (fun _ => 0))) :: (q129, .inl (c130, 700, .inl (fun _ => 0))) :: (q131, .inl (c132, 100, .inl (fun _ => 0))) :: (q133, .inl (c134, 100, .inl (fun _ => 0))) :: (q135, .inl (c136, 100, .inl (fun _ => 0))) :: (q137, .inl (c138, 100, .inl (fun _ => 0))) :: (q139, .inl (c140, 100, .inl (fun _ => 0))) :: (q141, .inl (c142, 3, .inl (fun _ => 0))) :: (q143, .inr (11, [.ref q147, .ref q149, .ref q151, .ref q153, .ref q155, .ref q157, .ref q159, .ref q161, .ref q163, .ref q165, .ref q167, .ref q169, .ref q171, .ref q173, .ref q175, .ref q177, .ref q179, .ref q181, .ref q183, .ref q185, .int 0, .ref q187, .ref q189, .ref q191, .ref q193, .ref q195, .ref q197, .ref q199, .int 0, .ref q201, .ref q203, .ref q205, .ref q207, .ref q209, .int 0, .int (-1), .int 0, .int 0, .int 0, .int 0, .int 0, .long 0, .int 0, .ref q211, .ref q213, .int 0, .ref q215, .ref q217, .int 0, .int 0, .ref q219, .ref q221, .ref q223, .ref q225, .ref q227, .ref q229, .ref q231, .ref q233, .ref q235, .long 0, .long 0, .int 0, .int 0, .long 0, .long 0, .ref q237, .ref q239, .ref q241, .ref q243, .ref q245, .long 0, .ref q247, .ref q249])) :: (q147, .inl (c148, 3, .inl (fun _ => 0))) :: (q149, .inl (c150, 4, .inl (fun _ => 0))) :: (q151, .inl (c152, 4, .inl (fun _ => 0))) :: (q153, .inl (c154, 4, .inl (fun _ => 0))) :: (q155, .inl (c156, 4, .inl (fun _ => 0))) :: (q157, .inl (c158, 1024, .inl (fun _ => 0))) :: (q159, .inl (c160, 1024, .inl g144)) :: (q161, .inl (c162, 1024, .inl (fun _ => 0))) :: (q163, .inl (c164, 1024, .inl g145)) :: (q165, .inl (c166, 320, .inl (fun _ => 0))) :: (q167, .inl (c168, 240, .inl (fun _ => 0))) :: (q169, .inl (c170, 240, .inl (fun _ => 0))) :: (q171, .inl (c172, 240, .inl (fun _ => 0))) :: (q173, .inl (c174, 240, .inl (fun _ => 0))) :: (q175, .inl (c176, 40, .inl (fun _ => 0))) :: (q177, .inl (c178, 160, .inl (fun _ => 0))) :: (q179, .inl (c180, 160, .inl (fun _ => 0))) :: (q181, .inl (c182, 160, .inl (fun _ => 0))) :: (q183, .inl (c184, 320, .inl (fun _ => 0))) :: (q185, .inl (c186, 160, .inl (fun _ => 0))) :: (q187, .inl (c188, 2, .inl (fun _ => 0))) :: (q189, .inl (c190, 80, .inl (fun _ => 0))) :: (q191, .inl (c192, 80, .inl (fun _ => 0))) :: (q193, .inl (c194, 80, .inl (fun _ => 0))) :: (q195, .inl (c196, 80, .inl (fun _ => 0))) :: (q197, .inl (c198, 80, .inl (fun _ => 0))) :: (q199, .inl (c200, 80, .inl (fun _ => 0))) :: (q201, .inl (c202, 2000, .inl (fun _ => 0))) :: (q203, .inl (c204, 2000, .inl (fun _ => 0))) :: (q205, .inl (c206, 2000, .inl (fun _ => 0))) :: (q207, .inl (c208, 2000, .inl (fun _ => 0))) :: (q209, .inl (c210, 700, .inl (fun _ => 0))) :: (q211, .inl (c212, 12, .inl (fun _ => 0))) :: (q213, .inl (c214, 12, .inl (fun _ => 0))) :: (q215, .inl (c216, 7, .inl (fun _ => 0))) :: (q217, .inl (c218, 300, .inl (fun _ => 0))) :: (q219, .inl (c220, 256, .inl (fun _ => 0))) :: (q221, .inl (c222, 256, .inl (fun _ => 0))) :: (q223, .inl (c224, 256, .inl (fun _ => 0))) :: (q225, .inl (c226, 256, .inl (fun _ => 0))) :: (q227, .inl (c228, 256, .inl (fun _ => 0))) :: (q229, .inl (c230, 256, .inl (fun _ => 0))) :: (q231, .inl (c232, 256, .inl (fun _ => 0))) :: (q233, .inl (c234, 256, .inl (fun _ => 0))) :: (q235, .inl (c236, 256, .inl (fun _ => 0))) :: (q237, .inl (c238, 256, .inl (fun _ => 0))) :: (q239, .inl (c240, 10, .inl (fun _ => 0))) :: (q241, .inl (c242, 10, .inl (fun _ => 0))) :: (q243, .inl (c244, 10, .inl (fun _ => 0))) :: (q245, .inl (c246, 256, .inl (fun _ => 0))) :: (q247, .inl (c248, 16, .inl (fun _ => 0))) :: (q249, .inl (c250, 16, .inl (fun _ => 0))) :: []) H) (hD : va_D A ((q1, .inr (10, [.ref q5, .ref q8, .ref q39, .ref q41, .ref q46, .ref q75, .ref q82, .ref q87, .ref q94, .ref q95, .ref q97, .ref q120, .int (-1), .int 0, .int 1])) :: (q5, .inr (6, [.ref q6, .int 0, .int 0, .int 0, .int 0, .int 0, .int 0, .int 0])) :: (q6, .inl (c7, 700, .inl (fun _ => 0))) :: (q8, .inr (7, [.ref q9, .ref q11, .ref q13, .ref q15, .ref q17, .ref q19, .ref q21, .ref q23, .ref q25, .ref q27, .ref q29, .ref q31, .ref q33, .ref q35, .ref q37, .int 0, .int 0, .int 0, .int 0, .int 0])) :: (q9, .inl (c10, 256, .inl (fun _ => 0))) :: (q13, .inl (c14, 256, .inl (fun _ => 0))) :: (q17, .inl (c18, 16, .inl (fun _ => 0))) :: (q19, .inl (c20, 16, .inl (fun _ => 0))) :: (q21, .inl (c22, 60, .inl (fun _ => 0))) :: (q23, .inl (c24, 60, .inl (fun _ => 0))) :: (q25, .inl (c26, 60, .inl (fun _ => 0))) :: (q27, .inl (c28, 60, .inl (fun _ => 0))) :: (q29, .inl (c30, 10, .inl (fun _ => 0))) :: (q31, .inl (c32, 40, .inl (fun _ => 0))) :: (q33, .inl (c34, 40, .inl (fun _ => 0))) :: (q35, .inl (c36, 40, .inl (fun _ => 0))) :: (q37, .inl (c38, 40, .inl (fun _ => 0))) :: (q11, .inl (c12, 256, .inl g2)) :: (q15, .inl (c16, 256, .inl g3)) :: (q39, .inl (c40, 3, .inr (.inr (.inr (.inr (fun _ => none)))))) :: (q41, .inr (8, [.ref q42, .ref q44, .ref q46, .ref q69, .ref q71, .ref q73, .int (-1)])) :: (q42, .inl (c43, 256, .inl (fun _ => 0))) :: (q44, .inl (c45, 256, .inl (fun _ => 0))) :: (q46, .inr (2, [.ref q47, .ref q49, .ref q51, .ref q53, .ref q55, .ref q57, .ref q59, .ref q61, .ref q63, .ref q65, .ref q67])) :: (q47, .inl (c48, 256, .inl (fun _ => 0))) :: (q49, .inl (c50, 256, .inl (fun _ => 0))) :: (q51, .inl (c52, 256, .inl (fun _ => 0))) :: (q53, .inl (c54, 256, .inl (fun _ => 0))) :: (q55, .inl (c56, 256, .inl (fun _ => 0))) :: (q57, .inl (c58, 256, .inl (fun _ => 0))) :: (q59, .inl (c60, 256, .inl (fun _ => 0))) :: (q61, .inl (c62, 256, .inl (fun _ => 0))) :: (q63, .inl (c64, 256, .inl (fun _ => 0))) :: (q65, .inl (c66, 200, .inl (fun _ => 0))) :: (q67, .inl (c68, 8, .inl (fun _ => 0))) :: (q69, .inl (c70, 256, .inl (fun _ => 0))) :: (q71, .inl (c72, 8, .inl (fun _ => 0))) :: (q73, .inl (c74, 16, .inl (fun _ => 0))) :: (q75, .inr (4, [.ref q76, .ref q78, .ref q80])) :: (q76, .inl (c77, 100, .inl (fun _ => 0))) :: (q78, .inl (c79, 25600, .inl (fun _ => 0))) :: (q80, .inl (c81, 100, .inl (fun _ => 0))) :: (q82, .inr (1, [.ref q83, .ref q85])) :: (q83, .inl (c84, 256, .inl (fun _ => 0))) :: (q85, .inl (c86, 256, .inl (fun _ => 0))) :: (q87, .inr (9, [.ref q88, .long 1000000, .ref q90, .ref q92, .int 0, .int 0, .int (-1)])) :: (q88, .inl (c89, 10, .inl (fun _ => 0))) :: (q90, .inl (c91, 10, .inl (fun _ => 0))) :: (q92, .inl (c93, 70, .inr (.inl (fun _ => 0)))) :: (q94, .inr (5, [.long 0, .long 1])) :: (q95, .inl (c96, 3, .inl (fun _ => 0))) :: (q97, .inr (3, [.int 0, .int 0, .ref q98, .ref q100, .ref q102, .ref q104, .ref q106, .int 0, .ref q108, .ref q110, .ref q112, .ref q114, .ref q116, .int 0, .ref q118])) :: (q98, .inl (c99, 40, .inl (fun _ => 0))) :: (q100, .inl (c101, 40, .inl (fun _ => 0))) :: (q102, .inl (c103, 40, .inl (fun _ => 0))) :: (q104, .inl (c105, 40, .inl (fun _ => 0))) :: (q106, .inl (c107, 700, .inl (fun _ => 0))) :: (q108, .inl (c109, 100, .inl (fun _ => 0))) :: (q110, .inl (c111, 100, .inl (fun _ => 0))) :: (q112, .inl (c113, 100, .inl (fun _ => 0))) :: (q114, .inl (c115, 100, .inl (fun _ => 0))) :: (q116, .inl (c117, 100, .inl (fun _ => 0))) :: (q118, .inl (c119, 3, .inl (fun _ => 0))) :: (q120, .inr (3, [.int 0, .int 0, .ref q121, .ref q123, .ref q125, .ref q127, .ref q129, .int 0, .ref q131, .ref q133, .ref q135, .ref q137, .ref q139, .int 0, .ref q141])) :: (q121, .inl (c122, 40, .inl (fun _ => 0))) :: (q123, .inl (c124, 40, .inl (fun _ => 0))) :: (q125, .inl (c126, 40, .inl (fun _ => 0))) :: (q127, .inl (c128, 40, .inl (fun _ => 0))) :: (q129, .inl (c130, 700, .inl (fun _ => 0))) :: (q131, .inl (c132, 100, .inl (fun _ => 0))) :: (q133, .inl (c134, 100, .inl (fun _ => 0))) :: (q135, .inl (c136, 100, .inl (fun _ => 0))) :: (q137, .inl (c138, 100, .inl (fun _ => 0))) :: (q139, .inl (c140, 100, .inl (fun _ => 0))) :: (q141, .inl (c142, 3, .inl (fun _ => 0))) :: (q143, .inr (11, [.ref q147, .ref q149, .ref q151, .ref q153, .ref q155, .ref q157, .ref q159, .ref q161, .ref q163, .ref q165, .ref q167, .ref q169, .ref q171, .ref q173, .ref q175, .ref q177, .ref q179, .ref q181, .ref q183, .ref q185, .int 0, .ref q187, .ref q189, .ref q191, .ref q193, .ref q195, .ref q197, .ref q199, .int 0, .ref q201, .ref q203, .ref q205, .ref q207, .ref q209, .int 0, .int (-1), .int 0, .int 0, .int 0, .int 0, .int 0, .long 0, .int 0, .ref q211, .ref q213, .int 0, .ref q215, .ref q217, .int 0, .int 0, .ref q219, .ref q221, .ref q223, .ref q225, .ref q227, .ref q229, .ref q231, .ref q233, .ref q235, .long 0, .long 0, .int 0, .int 0, .long 0, .long 0, .ref q237, .ref q239, .ref q241, .ref q243, .ref q245, .long 0, .ref q247, .ref q249])) :: (q147, .inl (c148, 3, .inl (fun _ => 0))) :: (q149, .inl (c150, 4, .inl (fun _ => 0))) :: (q151, .inl (c152, 4, .inl (fun _ => 0))) :: (q153, .inl (c154, 4, .inl (fun _ => 0))) :: (q155, .inl (c156, 4, .inl (fun _ => 0))) :: (q157, .inl (c158, 1024, .inl (fun _ => 0))) :: (q159, .inl (c160, 1024, .inl g144)) :: (q161, .inl (c162, 1024, .inl (fun _ => 0))) :: (q163, .inl (c164, 1024, .inl g145)) :: (q165, .inl (c166, 320, .inl (fun _ => 0))) :: (q167, .inl (c168, 240, .inl (fun _ => 0))) :: (q169, .inl (c170, 240, .inl (fun _ => 0))) :: (q171, .inl (c172, 240, .inl (fun _ => 0))) :: (q173, .inl (c174, 240, .inl (fun _ => 0))) :: (q175, .inl (c176, 40, .inl (fun _ => 0))) :: (q177, .inl (c178, 160, .inl (fun _ => 0))) :: (q179, .inl (c180, 160, .inl (fun _ => 0))) :: (q181, .inl (c182, 160, .inl (fun _ => 0))) :: (q183, .inl (c184, 320, .inl (fun _ => 0))) :: (q185, .inl (c186, 160, .inl (fun _ => 0))) :: (q187, .inl (c188, 2, .inl (fun _ => 0))) :: (q189, .inl (c190, 80, .inl (fun _ => 0))) :: (q191, .inl (c192, 80, .inl (fun _ => 0))) :: (q193, .inl (c194, 80, .inl (fun _ => 0))) :: (q195, .inl (c196, 80, .inl (fun _ => 0))) :: (q197, .inl (c198, 80, .inl (fun _ => 0))) :: (q199, .inl (c200, 80, .inl (fun _ => 0))) :: (q201, .inl (c202, 2000, .inl (fun _ => 0))) :: (q203, .inl (c204, 2000, .inl (fun _ => 0))) :: (q205, .inl (c206, 2000, .inl (fun _ => 0))) :: (q207, .inl (c208, 2000, .inl (fun _ => 0))) :: (q209, .inl (c210, 700, .inl (fun _ => 0))) :: (q211, .inl (c212, 12, .inl (fun _ => 0))) :: (q213, .inl (c214, 12, .inl (fun _ => 0))) :: (q215, .inl (c216, 7, .inl (fun _ => 0))) :: (q217, .inl (c218, 300, .inl (fun _ => 0))) :: (q219, .inl (c220, 256, .inl (fun _ => 0))) :: (q221, .inl (c222, 256, .inl (fun _ => 0))) :: (q223, .inl (c224, 256, .inl (fun _ => 0))) :: (q225, .inl (c226, 256, .inl (fun _ => 0))) :: (q227, .inl (c228, 256, .inl (fun _ => 0))) :: (q229, .inl (c230, 256, .inl (fun _ => 0))) :: (q231, .inl (c232, 256, .inl (fun _ => 0))) :: (q233, .inl (c234, 256, .inl (fun _ => 0))) :: (q235, .inl (c236, 256, .inl (fun _ => 0))) :: (q237, .inl (c238, 256, .inl (fun _ => 0))) :: (q239, .inl (c240, 10, .inl (fun _ => 0))) :: (q241, .inl (c242, 10, .inl (fun _ => 0))) :: (q243, .inl (c244, 10, .inl (fun _ => 0))) :: (q245, .inl (c246, 256, .inl (fun _ => 0))) :: (q247, .inl (c248, 16, .inl (fun _ => 0))) :: (q249, .inl (c250, 16, .inl (fun _ => 0))) :: [])) (hK : va_K (dC, dI) zcl ((c7, .int) :: (c10, .int) :: (c12, .int) :: (c14, .int) :: (c16, .int) :: (c18, .int) :: (c20, .int) :: (c22, .int) :: (c24, .int) :: (c26, .int) :: (c28, .int) :: (c30, .int) :: (c32, .int) :: (c34, .int) :: (c36, .int) :: (c38, .int) :: (c40, .object RX7) :: (c43, .boolean) :: (c45, .int) :: (c48, .int) :: (c50, .int) :: (c52, .int) :: (c54, .int) :: (c56, .int) :: (c58, .int) :: (c60, .int) :: (c62, .int) :: (c64, .int) :: (c66, .int) :: (c68, .int) :: (c70, .int) :: (c72, .int) :: (c74, .int) :: (c77, .int) :: (c79, .byte) :: (c81, .int) :: (c84, .boolean) :: (c86, .int) :: (c89, .int) :: (c91, .int) :: (c93, .long) :: (c96, .int) :: (c99, .int) :: (c101, .int) :: (c103, .int) :: (c105, .int) :: (c107, .int) :: (c109, .int) :: (c111, .int) :: (c113, .boolean) :: (c115, .boolean) :: (c117, .int) :: (c119, .int) :: (c122, .int) :: (c124, .int) :: (c126, .int) :: (c128, .int) :: (c130, .int) :: (c132, .int) :: (c134, .int) :: (c136, .boolean) :: (c138, .boolean) :: (c140, .int) :: (c142, .int) :: (c148, .int) :: (c150, .int) :: (c152, .int) :: (c154, .int) :: (c156, .int) :: (c158, .int) :: (c160, .int) :: (c162, .int) :: (c164, .int) :: (c166, .int) :: (c168, .int) :: (c170, .int) :: (c172, .int) :: (c174, .int) :: (c176, .int) :: (c178, .int) :: (c180, .int) :: (c182, .int) :: (c184, .boolean) :: (c186, .boolean) :: (c188, .int) :: (c190, .int) :: (c192, .int) :: (c194, .int) :: (c196, .int) :: (c198, .int) :: (c200, .int) :: (c202, .int) :: (c204, .int) :: (c206, .int) :: (c208, .int) :: (c210, .byte) :: (c212, .int) :: (c214, .int) :: (c216, .int) :: (c218, .boolean) :: (c220, .int) :: (c222, .int) :: (c224, .int) :: (c226, .int) :: (c228, .int) :: (c230, .boolean) :: (c232, .boolean) :: (c234, .int) :: (c236, .int) :: (c238, .boolean) :: (c240, .int) :: (c242, .int) :: (c244, .int) :: (c246, .int) :: (c248, .int) :: (c250, .int) :: []) s) (hNw : ∀ q ∈ znt, va_Nw (.methodLinkNest q.1 q.2.1 q.2.2.1 q.2.2.2) s) (hsr : ∀ q ∈ zsr, vk_R RX6 q.1 q.2.1 (adK q.2.2) s) (hvs : vk_S zsn zsl zsb adK adV A s s.heap) (hcs : va_Z "java/lang/String" "COMPACT_STRINGS" "Z" (.int 1) A s s.heap) (hsf : va_Zq "jdk/internal/util/Preconditions" "SIOOBE_FORMATTER" "Ljava/util/function/BiFunction;" A s s.heap) (hu1 : (∀ j, j < 256 → g2 j = 99) ∧ ∀ j, j < 256 → g3 j = -1) (hu2 : (∀ j, j < 256 → g144 j = 99) ∧ ∀ j, j < 256 → g145 j = -1) : ∃ (w : zW) (M : zM), w.1 = zKn 0 ∧ zWk w ∧ zEv w A s ∧ (∀ r, ztag w.1 r ≠ 0 → A (w.2.1 r)) ∧ zNew M ∧ zHp w M H ∧ rn w 76 = .ref q143 ∧ rn w 1 = .ref q1 := by
  obtain ⟨ad, had, hadK, hadV⟩ := zad [q1, q5, q6, q8, q9, q13, q17, q19, q21, q23, q25, q27, q29, q31, q33, q35, q37, q11, q15, q39, q41, q42, q44, q46, q47, q49, q51, q53, q55, q57, q59, q61, q63, q65, q67, q69, q71, q73, q75, q76, q78, q80, q82, q83, q85, q87, q88, q90, q92, q94, q95, q97, q98, q100, q102, q104, q106, q108, q110, q112, q114, q116, q118, q120, q121, q123, q125, q127, q129, q131, q133, q135, q137, q139, q141, q143, q147, q149, q151, q153, q155, q157, q159, q161, q163, q165, q167, q169, q171, q173, q175, q177, q179, q181, q183, q185, q187, q189, q191, q193, q195, q197, q199, q201, q203, q205, q207, q209, q211, q213, q215, q217, q219, q221, q223, q225, q227, q229, q231, q233, q235, q237, q239, q241, q243, q245, q247, q249] adK adV
  have fc7 : c7 = zcy s 20 := (zcy_of 20 rfl (hK.2 0 (c7, .int) rfl).2).symm
  have fc10 : c10 = zcy s 20 := (zcy_of 20 rfl (hK.2 1 (c10, .int) rfl).2).symm
  have fc12 : c12 = zcy s 20 := (zcy_of 20 rfl (hK.2 2 (c12, .int) rfl).2).symm
  have fc14 : c14 = zcy s 20 := (zcy_of 20 rfl (hK.2 3 (c14, .int) rfl).2).symm
  have fc16 : c16 = zcy s 20 := (zcy_of 20 rfl (hK.2 4 (c16, .int) rfl).2).symm
  have fc18 : c18 = zcy s 20 := (zcy_of 20 rfl (hK.2 5 (c18, .int) rfl).2).symm
  have fc20 : c20 = zcy s 20 := (zcy_of 20 rfl (hK.2 6 (c20, .int) rfl).2).symm
  have fc22 : c22 = zcy s 20 := (zcy_of 20 rfl (hK.2 7 (c22, .int) rfl).2).symm
  have fc24 : c24 = zcy s 20 := (zcy_of 20 rfl (hK.2 8 (c24, .int) rfl).2).symm
  have fc26 : c26 = zcy s 20 := (zcy_of 20 rfl (hK.2 9 (c26, .int) rfl).2).symm
  have fc28 : c28 = zcy s 20 := (zcy_of 20 rfl (hK.2 10 (c28, .int) rfl).2).symm
  have fc30 : c30 = zcy s 20 := (zcy_of 20 rfl (hK.2 11 (c30, .int) rfl).2).symm
  have fc32 : c32 = zcy s 20 := (zcy_of 20 rfl (hK.2 12 (c32, .int) rfl).2).symm
  have fc34 : c34 = zcy s 20 := (zcy_of 20 rfl (hK.2 13 (c34, .int) rfl).2).symm
  have fc36 : c36 = zcy s 20 := (zcy_of 20 rfl (hK.2 14 (c36, .int) rfl).2).symm
  have fc38 : c38 = zcy s 20 := (zcy_of 20 rfl (hK.2 15 (c38, .int) rfl).2).symm
  have fc40 : c40 = zcy s 24 := (zcy_of 24 rfl (hK.2 16 (c40, .object RX7) rfl).2).symm
  have fc43 : c43 = zcy s 21 := (zcy_of 21 rfl (hK.2 17 (c43, .boolean) rfl).2).symm
  have fc45 : c45 = zcy s 20 := (zcy_of 20 rfl (hK.2 18 (c45, .int) rfl).2).symm
  have fc48 : c48 = zcy s 20 := (zcy_of 20 rfl (hK.2 19 (c48, .int) rfl).2).symm
  have fc50 : c50 = zcy s 20 := (zcy_of 20 rfl (hK.2 20 (c50, .int) rfl).2).symm
  have fc52 : c52 = zcy s 20 := (zcy_of 20 rfl (hK.2 21 (c52, .int) rfl).2).symm
  have fc54 : c54 = zcy s 20 := (zcy_of 20 rfl (hK.2 22 (c54, .int) rfl).2).symm
  have fc56 : c56 = zcy s 20 := (zcy_of 20 rfl (hK.2 23 (c56, .int) rfl).2).symm
  have fc58 : c58 = zcy s 20 := (zcy_of 20 rfl (hK.2 24 (c58, .int) rfl).2).symm
  have fc60 : c60 = zcy s 20 := (zcy_of 20 rfl (hK.2 25 (c60, .int) rfl).2).symm
  have fc62 : c62 = zcy s 20 := (zcy_of 20 rfl (hK.2 26 (c62, .int) rfl).2).symm
  have fc64 : c64 = zcy s 20 := (zcy_of 20 rfl (hK.2 27 (c64, .int) rfl).2).symm
  have fc66 : c66 = zcy s 20 := (zcy_of 20 rfl (hK.2 28 (c66, .int) rfl).2).symm
  have fc68 : c68 = zcy s 20 := (zcy_of 20 rfl (hK.2 29 (c68, .int) rfl).2).symm
  have fc70 : c70 = zcy s 20 := (zcy_of 20 rfl (hK.2 30 (c70, .int) rfl).2).symm
  have fc72 : c72 = zcy s 20 := (zcy_of 20 rfl (hK.2 31 (c72, .int) rfl).2).symm
  have fc74 : c74 = zcy s 20 := (zcy_of 20 rfl (hK.2 32 (c74, .int) rfl).2).symm
  have fc77 : c77 = zcy s 20 := (zcy_of 20 rfl (hK.2 33 (c77, .int) rfl).2).symm
  have fc79 : c79 = zcy s 22 := (zcy_of 22 rfl (hK.2 34 (c79, .byte) rfl).2).symm
  have fc81 : c81 = zcy s 20 := (zcy_of 20 rfl (hK.2 35 (c81, .int) rfl).2).symm
  have fc84 : c84 = zcy s 21 := (zcy_of 21 rfl (hK.2 36 (c84, .boolean) rfl).2).symm
  have fc86 : c86 = zcy s 20 := (zcy_of 20 rfl (hK.2 37 (c86, .int) rfl).2).symm
  have fc89 : c89 = zcy s 20 := (zcy_of 20 rfl (hK.2 38 (c89, .int) rfl).2).symm
  have fc91 : c91 = zcy s 20 := (zcy_of 20 rfl (hK.2 39 (c91, .int) rfl).2).symm
  have fc93 : c93 = zcy s 23 := (zcy_of 23 rfl (hK.2 40 (c93, .long) rfl).2).symm
  have fc96 : c96 = zcy s 20 := (zcy_of 20 rfl (hK.2 41 (c96, .int) rfl).2).symm
  have fc99 : c99 = zcy s 20 := (zcy_of 20 rfl (hK.2 42 (c99, .int) rfl).2).symm
  have fc101 : c101 = zcy s 20 := (zcy_of 20 rfl (hK.2 43 (c101, .int) rfl).2).symm
  have fc103 : c103 = zcy s 20 := (zcy_of 20 rfl (hK.2 44 (c103, .int) rfl).2).symm
  have fc105 : c105 = zcy s 20 := (zcy_of 20 rfl (hK.2 45 (c105, .int) rfl).2).symm
  have fc107 : c107 = zcy s 20 := (zcy_of 20 rfl (hK.2 46 (c107, .int) rfl).2).symm
  have fc109 : c109 = zcy s 20 := (zcy_of 20 rfl (hK.2 47 (c109, .int) rfl).2).symm
  have fc111 : c111 = zcy s 20 := (zcy_of 20 rfl (hK.2 48 (c111, .int) rfl).2).symm
  have fc113 : c113 = zcy s 21 := (zcy_of 21 rfl (hK.2 49 (c113, .boolean) rfl).2).symm
  have fc115 : c115 = zcy s 21 := (zcy_of 21 rfl (hK.2 50 (c115, .boolean) rfl).2).symm
  have fc117 : c117 = zcy s 20 := (zcy_of 20 rfl (hK.2 51 (c117, .int) rfl).2).symm
  have fc119 : c119 = zcy s 20 := (zcy_of 20 rfl (hK.2 52 (c119, .int) rfl).2).symm
  have fc122 : c122 = zcy s 20 := (zcy_of 20 rfl (hK.2 53 (c122, .int) rfl).2).symm
  have fc124 : c124 = zcy s 20 := (zcy_of 20 rfl (hK.2 54 (c124, .int) rfl).2).symm
  have fc126 : c126 = zcy s 20 := (zcy_of 20 rfl (hK.2 55 (c126, .int) rfl).2).symm
  have fc128 : c128 = zcy s 20 := (zcy_of 20 rfl (hK.2 56 (c128, .int) rfl).2).symm
  have fc130 : c130 = zcy s 20 := (zcy_of 20 rfl (hK.2 57 (c130, .int) rfl).2).symm
  have fc132 : c132 = zcy s 20 := (zcy_of 20 rfl (hK.2 58 (c132, .int) rfl).2).symm
  have fc134 : c134 = zcy s 20 := (zcy_of 20 rfl (hK.2 59 (c134, .int) rfl).2).symm
  have fc136 : c136 = zcy s 21 := (zcy_of 21 rfl (hK.2 60 (c136, .boolean) rfl).2).symm
  have fc138 : c138 = zcy s 21 := (zcy_of 21 rfl (hK.2 61 (c138, .boolean) rfl).2).symm
  have fc140 : c140 = zcy s 20 := (zcy_of 20 rfl (hK.2 62 (c140, .int) rfl).2).symm
  have fc142 : c142 = zcy s 20 := (zcy_of 20 rfl (hK.2 63 (c142, .int) rfl).2).symm
  have fc148 : c148 = zcy s 20 := (zcy_of 20 rfl (hK.2 64 (c148, .int) rfl).2).symm
  have fc150 : c150 = zcy s 20 := (zcy_of 20 rfl (hK.2 65 (c150, .int) rfl).2).symm
  have fc152 : c152 = zcy s 20 := (zcy_of 20 rfl (hK.2 66 (c152, .int) rfl).2).symm
  have fc154 : c154 = zcy s 20 := (zcy_of 20 rfl (hK.2 67 (c154, .int) rfl).2).symm
  have fc156 : c156 = zcy s 20 := (zcy_of 20 rfl (hK.2 68 (c156, .int) rfl).2).symm
  have fc158 : c158 = zcy s 20 := (zcy_of 20 rfl (hK.2 69 (c158, .int) rfl).2).symm
  have fc160 : c160 = zcy s 20 := (zcy_of 20 rfl (hK.2 70 (c160, .int) rfl).2).symm
  have fc162 : c162 = zcy s 20 := (zcy_of 20 rfl (hK.2 71 (c162, .int) rfl).2).symm
  have fc164 : c164 = zcy s 20 := (zcy_of 20 rfl (hK.2 72 (c164, .int) rfl).2).symm
  have fc166 : c166 = zcy s 20 := (zcy_of 20 rfl (hK.2 73 (c166, .int) rfl).2).symm
  have fc168 : c168 = zcy s 20 := (zcy_of 20 rfl (hK.2 74 (c168, .int) rfl).2).symm
  have fc170 : c170 = zcy s 20 := (zcy_of 20 rfl (hK.2 75 (c170, .int) rfl).2).symm
  have fc172 : c172 = zcy s 20 := (zcy_of 20 rfl (hK.2 76 (c172, .int) rfl).2).symm
  have fc174 : c174 = zcy s 20 := (zcy_of 20 rfl (hK.2 77 (c174, .int) rfl).2).symm
  have fc176 : c176 = zcy s 20 := (zcy_of 20 rfl (hK.2 78 (c176, .int) rfl).2).symm
  have fc178 : c178 = zcy s 20 := (zcy_of 20 rfl (hK.2 79 (c178, .int) rfl).2).symm
  have fc180 : c180 = zcy s 20 := (zcy_of 20 rfl (hK.2 80 (c180, .int) rfl).2).symm
  have fc182 : c182 = zcy s 20 := (zcy_of 20 rfl (hK.2 81 (c182, .int) rfl).2).symm
  have fc184 : c184 = zcy s 21 := (zcy_of 21 rfl (hK.2 82 (c184, .boolean) rfl).2).symm
  have fc186 : c186 = zcy s 21 := (zcy_of 21 rfl (hK.2 83 (c186, .boolean) rfl).2).symm
  have fc188 : c188 = zcy s 20 := (zcy_of 20 rfl (hK.2 84 (c188, .int) rfl).2).symm
  have fc190 : c190 = zcy s 20 := (zcy_of 20 rfl (hK.2 85 (c190, .int) rfl).2).symm
  have fc192 : c192 = zcy s 20 := (zcy_of 20 rfl (hK.2 86 (c192, .int) rfl).2).symm
  have fc194 : c194 = zcy s 20 := (zcy_of 20 rfl (hK.2 87 (c194, .int) rfl).2).symm
  have fc196 : c196 = zcy s 20 := (zcy_of 20 rfl (hK.2 88 (c196, .int) rfl).2).symm
  have fc198 : c198 = zcy s 20 := (zcy_of 20 rfl (hK.2 89 (c198, .int) rfl).2).symm
  have fc200 : c200 = zcy s 20 := (zcy_of 20 rfl (hK.2 90 (c200, .int) rfl).2).symm
  have fc202 : c202 = zcy s 20 := (zcy_of 20 rfl (hK.2 91 (c202, .int) rfl).2).symm
  have fc204 : c204 = zcy s 20 := (zcy_of 20 rfl (hK.2 92 (c204, .int) rfl).2).symm
  have fc206 : c206 = zcy s 20 := (zcy_of 20 rfl (hK.2 93 (c206, .int) rfl).2).symm
  have fc208 : c208 = zcy s 20 := (zcy_of 20 rfl (hK.2 94 (c208, .int) rfl).2).symm
  have fc210 : c210 = zcy s 22 := (zcy_of 22 rfl (hK.2 95 (c210, .byte) rfl).2).symm
  have fc212 : c212 = zcy s 20 := (zcy_of 20 rfl (hK.2 96 (c212, .int) rfl).2).symm
  have fc214 : c214 = zcy s 20 := (zcy_of 20 rfl (hK.2 97 (c214, .int) rfl).2).symm
  have fc216 : c216 = zcy s 20 := (zcy_of 20 rfl (hK.2 98 (c216, .int) rfl).2).symm
  have fc218 : c218 = zcy s 21 := (zcy_of 21 rfl (hK.2 99 (c218, .boolean) rfl).2).symm
  have fc220 : c220 = zcy s 20 := (zcy_of 20 rfl (hK.2 100 (c220, .int) rfl).2).symm
  have fc222 : c222 = zcy s 20 := (zcy_of 20 rfl (hK.2 101 (c222, .int) rfl).2).symm
  have fc224 : c224 = zcy s 20 := (zcy_of 20 rfl (hK.2 102 (c224, .int) rfl).2).symm
  have fc226 : c226 = zcy s 20 := (zcy_of 20 rfl (hK.2 103 (c226, .int) rfl).2).symm
  have fc228 : c228 = zcy s 20 := (zcy_of 20 rfl (hK.2 104 (c228, .int) rfl).2).symm
  have fc230 : c230 = zcy s 21 := (zcy_of 21 rfl (hK.2 105 (c230, .boolean) rfl).2).symm
  have fc232 : c232 = zcy s 21 := (zcy_of 21 rfl (hK.2 106 (c232, .boolean) rfl).2).symm
  have fc234 : c234 = zcy s 20 := (zcy_of 20 rfl (hK.2 107 (c234, .int) rfl).2).symm
  have fc236 : c236 = zcy s 20 := (zcy_of 20 rfl (hK.2 108 (c236, .int) rfl).2).symm
  have fc238 : c238 = zcy s 21 := (zcy_of 21 rfl (hK.2 109 (c238, .boolean) rfl).2).symm
  have fc240 : c240 = zcy s 20 := (zcy_of 20 rfl (hK.2 110 (c240, .int) rfl).2).symm
  have fc242 : c242 = zcy s 20 := (zcy_of 20 rfl (hK.2 111 (c242, .int) rfl).2).symm
  have fc244 : c244 = zcy s 20 := (zcy_of 20 rfl (hK.2 112 (c244, .int) rfl).2).symm
  have fc246 : c246 = zcy s 20 := (zcy_of 20 rfl (hK.2 113 (c246, .int) rfl).2).symm
  have fc248 : c248 = zcy s 20 := (zcy_of 20 rfl (hK.2 114 (c248, .int) rfl).2).symm
  have fc250 : c250 = zcy s 20 := (zcy_of 20 rfl (hK.2 115 (c250, .int) rfl).2).symm
  have gq1 : q1 = ad 1 := (had 0 (by decide)).symm
  have gq5 : q5 = ad 2 := (had 1 (by decide)).symm
  have gq6 : q6 = ad 3 := (had 2 (by decide)).symm
  have gq8 : q8 = ad 4 := (had 3 (by decide)).symm
  have gq9 : q9 = ad 5 := (had 4 (by decide)).symm
  have gq13 : q13 = ad 6 := (had 5 (by decide)).symm
  have gq17 : q17 = ad 7 := (had 6 (by decide)).symm
  have gq19 : q19 = ad 8 := (had 7 (by decide)).symm
  have gq21 : q21 = ad 9 := (had 8 (by decide)).symm
  have gq23 : q23 = ad 10 := (had 9 (by decide)).symm
  have gq25 : q25 = ad 11 := (had 10 (by decide)).symm
  have gq27 : q27 = ad 12 := (had 11 (by decide)).symm
  have gq29 : q29 = ad 13 := (had 12 (by decide)).symm
  have gq31 : q31 = ad 14 := (had 13 (by decide)).symm
  have gq33 : q33 = ad 15 := (had 14 (by decide)).symm
  have gq35 : q35 = ad 16 := (had 15 (by decide)).symm
  have gq37 : q37 = ad 17 := (had 16 (by decide)).symm
  have gq11 : q11 = ad 18 := (had 17 (by decide)).symm
  have gq15 : q15 = ad 19 := (had 18 (by decide)).symm
  have gq39 : q39 = ad 20 := (had 19 (by decide)).symm
  have gq41 : q41 = ad 21 := (had 20 (by decide)).symm
  have gq42 : q42 = ad 22 := (had 21 (by decide)).symm
  have gq44 : q44 = ad 23 := (had 22 (by decide)).symm
  have gq46 : q46 = ad 24 := (had 23 (by decide)).symm
  have gq47 : q47 = ad 25 := (had 24 (by decide)).symm
  have gq49 : q49 = ad 26 := (had 25 (by decide)).symm
  have gq51 : q51 = ad 27 := (had 26 (by decide)).symm
  have gq53 : q53 = ad 28 := (had 27 (by decide)).symm
  have gq55 : q55 = ad 29 := (had 28 (by decide)).symm
  have gq57 : q57 = ad 30 := (had 29 (by decide)).symm
  have gq59 : q59 = ad 31 := (had 30 (by decide)).symm
  have gq61 : q61 = ad 32 := (had 31 (by decide)).symm
  have gq63 : q63 = ad 33 := (had 32 (by decide)).symm
  have gq65 : q65 = ad 34 := (had 33 (by decide)).symm
  have gq67 : q67 = ad 35 := (had 34 (by decide)).symm
  have gq69 : q69 = ad 36 := (had 35 (by decide)).symm
  have gq71 : q71 = ad 37 := (had 36 (by decide)).symm
  have gq73 : q73 = ad 38 := (had 37 (by decide)).symm
  have gq75 : q75 = ad 39 := (had 38 (by decide)).symm
  have gq76 : q76 = ad 40 := (had 39 (by decide)).symm
  have gq78 : q78 = ad 41 := (had 40 (by decide)).symm
  have gq80 : q80 = ad 42 := (had 41 (by decide)).symm
  have gq82 : q82 = ad 43 := (had 42 (by decide)).symm
  have gq83 : q83 = ad 44 := (had 43 (by decide)).symm
  have gq85 : q85 = ad 45 := (had 44 (by decide)).symm
  have gq87 : q87 = ad 46 := (had 45 (by decide)).symm
  have gq88 : q88 = ad 47 := (had 46 (by decide)).symm
  have gq90 : q90 = ad 48 := (had 47 (by decide)).symm
  have gq92 : q92 = ad 49 := (had 48 (by decide)).symm
  have gq94 : q94 = ad 50 := (had 49 (by decide)).symm
  have gq95 : q95 = ad 51 := (had 50 (by decide)).symm
  have gq97 : q97 = ad 52 := (had 51 (by decide)).symm
  have gq98 : q98 = ad 53 := (had 52 (by decide)).symm
  have gq100 : q100 = ad 54 := (had 53 (by decide)).symm
  have gq102 : q102 = ad 55 := (had 54 (by decide)).symm
  have gq104 : q104 = ad 56 := (had 55 (by decide)).symm
  have gq106 : q106 = ad 57 := (had 56 (by decide)).symm
  have gq108 : q108 = ad 58 := (had 57 (by decide)).symm
  have gq110 : q110 = ad 59 := (had 58 (by decide)).symm
  have gq112 : q112 = ad 60 := (had 59 (by decide)).symm
  have gq114 : q114 = ad 61 := (had 60 (by decide)).symm
  have gq116 : q116 = ad 62 := (had 61 (by decide)).symm
  have gq118 : q118 = ad 63 := (had 62 (by decide)).symm
  have gq120 : q120 = ad 64 := (had 63 (by decide)).symm
  have gq121 : q121 = ad 65 := (had 64 (by decide)).symm
  have gq123 : q123 = ad 66 := (had 65 (by decide)).symm
  have gq125 : q125 = ad 67 := (had 66 (by decide)).symm
  have gq127 : q127 = ad 68 := (had 67 (by decide)).symm
  have gq129 : q129 = ad 69 := (had 68 (by decide)).symm
  have gq131 : q131 = ad 70 := (had 69 (by decide)).symm
  have gq133 : q133 = ad 71 := (had 70 (by decide)).symm
  have gq135 : q135 = ad 72 := (had 71 (by decide)).symm
  have gq137 : q137 = ad 73 := (had 72 (by decide)).symm
  have gq139 : q139 = ad 74 := (had 73 (by decide)).symm
  have gq141 : q141 = ad 75 := (had 74 (by decide)).symm
  have gq143 : q143 = ad 76 := (had 75 (by decide)).symm
  have gq147 : q147 = ad 77 := (had 76 (by decide)).symm
  have gq149 : q149 = ad 78 := (had 77 (by decide)).symm
  have gq151 : q151 = ad 79 := (had 78 (by decide)).symm
  have gq153 : q153 = ad 80 := (had 79 (by decide)).symm
  have gq155 : q155 = ad 81 := (had 80 (by decide)).symm
  have gq157 : q157 = ad 82 := (had 81 (by decide)).symm
  have gq159 : q159 = ad 83 := (had 82 (by decide)).symm
  have gq161 : q161 = ad 84 := (had 83 (by decide)).symm
  have gq163 : q163 = ad 85 := (had 84 (by decide)).symm
  have gq165 : q165 = ad 86 := (had 85 (by decide)).symm
  have gq167 : q167 = ad 87 := (had 86 (by decide)).symm
  have gq169 : q169 = ad 88 := (had 87 (by decide)).symm
  have gq171 : q171 = ad 89 := (had 88 (by decide)).symm
  have gq173 : q173 = ad 90 := (had 89 (by decide)).symm
  have gq175 : q175 = ad 91 := (had 90 (by decide)).symm
  have gq177 : q177 = ad 92 := (had 91 (by decide)).symm
  have gq179 : q179 = ad 93 := (had 92 (by decide)).symm
  have gq181 : q181 = ad 94 := (had 93 (by decide)).symm
  have gq183 : q183 = ad 95 := (had 94 (by decide)).symm
  have gq185 : q185 = ad 96 := (had 95 (by decide)).symm
  have gq187 : q187 = ad 97 := (had 96 (by decide)).symm
  have gq189 : q189 = ad 98 := (had 97 (by decide)).symm
  have gq191 : q191 = ad 99 := (had 98 (by decide)).symm
  have gq193 : q193 = ad 100 := (had 99 (by decide)).symm
  have gq195 : q195 = ad 101 := (had 100 (by decide)).symm
  have gq197 : q197 = ad 102 := (had 101 (by decide)).symm
  have gq199 : q199 = ad 103 := (had 102 (by decide)).symm
  have gq201 : q201 = ad 104 := (had 103 (by decide)).symm
  have gq203 : q203 = ad 105 := (had 104 (by decide)).symm
  have gq205 : q205 = ad 106 := (had 105 (by decide)).symm
  have gq207 : q207 = ad 107 := (had 106 (by decide)).symm
  have gq209 : q209 = ad 108 := (had 107 (by decide)).symm
  have gq211 : q211 = ad 109 := (had 108 (by decide)).symm
  have gq213 : q213 = ad 110 := (had 109 (by decide)).symm
  have gq215 : q215 = ad 111 := (had 110 (by decide)).symm
  have gq217 : q217 = ad 112 := (had 111 (by decide)).symm
  have gq219 : q219 = ad 113 := (had 112 (by decide)).symm
  have gq221 : q221 = ad 114 := (had 113 (by decide)).symm
  have gq223 : q223 = ad 115 := (had 114 (by decide)).symm
  have gq225 : q225 = ad 116 := (had 115 (by decide)).symm
  have gq227 : q227 = ad 117 := (had 116 (by decide)).symm
  have gq229 : q229 = ad 118 := (had 117 (by decide)).symm
  have gq231 : q231 = ad 119 := (had 118 (by decide)).symm
  have gq233 : q233 = ad 120 := (had 119 (by decide)).symm
  have gq235 : q235 = ad 121 := (had 120 (by decide)).symm
  have gq237 : q237 = ad 122 := (had 121 (by decide)).symm
  have gq239 : q239 = ad 123 := (had 122 (by decide)).symm
  have gq241 : q241 = ad 124 := (had 123 (by decide)).symm
  have gq243 : q243 = ad 125 := (had 124 (by decide)).symm
  have gq245 : q245 = ad 126 := (had 125 (by decide)).symm
  have gq247 : q247 = ad 127 := (had 126 (by decide)).symm
  have gq249 : q249 = ad 128 := (had 127 (by decide)).symm
  have eC : (((q1, .inr (10, [.ref q5, .ref q8, .ref q39, .ref q41, .ref q46, .ref q75, .ref q82, .ref q87, .ref q94, .ref q95, .ref q97, .ref q120, .int (-1), .int 0, .int 1])) :: (q5, .inr (6, [.ref q6, .int 0, .int 0, .int 0, .int 0, .int 0, .int 0, .int 0])) :: (q6, .inl (c7, 700, .inl (fun _ => 0))) :: (q8, .inr (7, [.ref q9, .ref q11, .ref q13, .ref q15, .ref q17, .ref q19, .ref q21, .ref q23, .ref q25, .ref q27, .ref q29, .ref q31, .ref q33, .ref q35, .ref q37, .int 0, .int 0, .int 0, .int 0, .int 0])) :: (q9, .inl (c10, 256, .inl (fun _ => 0))) :: (q13, .inl (c14, 256, .inl (fun _ => 0))) :: (q17, .inl (c18, 16, .inl (fun _ => 0))) :: (q19, .inl (c20, 16, .inl (fun _ => 0))) :: (q21, .inl (c22, 60, .inl (fun _ => 0))) :: (q23, .inl (c24, 60, .inl (fun _ => 0))) :: (q25, .inl (c26, 60, .inl (fun _ => 0))) :: (q27, .inl (c28, 60, .inl (fun _ => 0))) :: (q29, .inl (c30, 10, .inl (fun _ => 0))) :: (q31, .inl (c32, 40, .inl (fun _ => 0))) :: (q33, .inl (c34, 40, .inl (fun _ => 0))) :: (q35, .inl (c36, 40, .inl (fun _ => 0))) :: (q37, .inl (c38, 40, .inl (fun _ => 0))) :: (q11, .inl (c12, 256, .inl g2)) :: (q15, .inl (c16, 256, .inl g3)) :: (q39, .inl (c40, 3, .inr (.inr (.inr (.inr (fun _ => none)))))) :: (q41, .inr (8, [.ref q42, .ref q44, .ref q46, .ref q69, .ref q71, .ref q73, .int (-1)])) :: (q42, .inl (c43, 256, .inl (fun _ => 0))) :: (q44, .inl (c45, 256, .inl (fun _ => 0))) :: (q46, .inr (2, [.ref q47, .ref q49, .ref q51, .ref q53, .ref q55, .ref q57, .ref q59, .ref q61, .ref q63, .ref q65, .ref q67])) :: (q47, .inl (c48, 256, .inl (fun _ => 0))) :: (q49, .inl (c50, 256, .inl (fun _ => 0))) :: (q51, .inl (c52, 256, .inl (fun _ => 0))) :: (q53, .inl (c54, 256, .inl (fun _ => 0))) :: (q55, .inl (c56, 256, .inl (fun _ => 0))) :: (q57, .inl (c58, 256, .inl (fun _ => 0))) :: (q59, .inl (c60, 256, .inl (fun _ => 0))) :: (q61, .inl (c62, 256, .inl (fun _ => 0))) :: (q63, .inl (c64, 256, .inl (fun _ => 0))) :: (q65, .inl (c66, 200, .inl (fun _ => 0))) :: (q67, .inl (c68, 8, .inl (fun _ => 0))) :: (q69, .inl (c70, 256, .inl (fun _ => 0))) :: (q71, .inl (c72, 8, .inl (fun _ => 0))) :: (q73, .inl (c74, 16, .inl (fun _ => 0))) :: (q75, .inr (4, [.ref q76, .ref q78, .ref q80])) :: (q76, .inl (c77, 100, .inl (fun _ => 0))) :: (q78, .inl (c79, 25600, .inl (fun _ => 0))) :: (q80, .inl (c81, 100, .inl (fun _ => 0))) :: (q82, .inr (1, [.ref q83, .ref q85])) :: (q83, .inl (c84, 256, .inl (fun _ => 0))) :: (q85, .inl (c86, 256, .inl (fun _ => 0))) :: (q87, .inr (9, [.ref q88, .long 1000000, .ref q90, .ref q92, .int 0, .int 0, .int (-1)])) :: (q88, .inl (c89, 10, .inl (fun _ => 0))) :: (q90, .inl (c91, 10, .inl (fun _ => 0))) :: (q92, .inl (c93, 70, .inr (.inl (fun _ => 0)))) :: (q94, .inr (5, [.long 0, .long 1])) :: (q95, .inl (c96, 3, .inl (fun _ => 0))) :: (q97, .inr (3, [.int 0, .int 0, .ref q98, .ref q100, .ref q102, .ref q104, .ref q106, .int 0, .ref q108, .ref q110, .ref q112, .ref q114, .ref q116, .int 0, .ref q118])) :: (q98, .inl (c99, 40, .inl (fun _ => 0))) :: (q100, .inl (c101, 40, .inl (fun _ => 0))) :: (q102, .inl (c103, 40, .inl (fun _ => 0))) :: (q104, .inl (c105, 40, .inl (fun _ => 0))) :: (q106, .inl (c107, 700, .inl (fun _ => 0))) :: (q108, .inl (c109, 100, .inl (fun _ => 0))) :: (q110, .inl (c111, 100, .inl (fun _ => 0))) :: (q112, .inl (c113, 100, .inl (fun _ => 0))) :: (q114, .inl (c115, 100, .inl (fun _ => 0))) :: (q116, .inl (c117, 100, .inl (fun _ => 0))) :: (q118, .inl (c119, 3, .inl (fun _ => 0))) :: (q120, .inr (3, [.int 0, .int 0, .ref q121, .ref q123, .ref q125, .ref q127, .ref q129, .int 0, .ref q131, .ref q133, .ref q135, .ref q137, .ref q139, .int 0, .ref q141])) :: (q121, .inl (c122, 40, .inl (fun _ => 0))) :: (q123, .inl (c124, 40, .inl (fun _ => 0))) :: (q125, .inl (c126, 40, .inl (fun _ => 0))) :: (q127, .inl (c128, 40, .inl (fun _ => 0))) :: (q129, .inl (c130, 700, .inl (fun _ => 0))) :: (q131, .inl (c132, 100, .inl (fun _ => 0))) :: (q133, .inl (c134, 100, .inl (fun _ => 0))) :: (q135, .inl (c136, 100, .inl (fun _ => 0))) :: (q137, .inl (c138, 100, .inl (fun _ => 0))) :: (q139, .inl (c140, 100, .inl (fun _ => 0))) :: (q141, .inl (c142, 3, .inl (fun _ => 0))) :: (q143, .inr (11, [.ref q147, .ref q149, .ref q151, .ref q153, .ref q155, .ref q157, .ref q159, .ref q161, .ref q163, .ref q165, .ref q167, .ref q169, .ref q171, .ref q173, .ref q175, .ref q177, .ref q179, .ref q181, .ref q183, .ref q185, .int 0, .ref q187, .ref q189, .ref q191, .ref q193, .ref q195, .ref q197, .ref q199, .int 0, .ref q201, .ref q203, .ref q205, .ref q207, .ref q209, .int 0, .int (-1), .int 0, .int 0, .int 0, .int 0, .int 0, .long 0, .int 0, .ref q211, .ref q213, .int 0, .ref q215, .ref q217, .int 0, .int 0, .ref q219, .ref q221, .ref q223, .ref q225, .ref q227, .ref q229, .ref q231, .ref q233, .ref q235, .long 0, .long 0, .int 0, .int 0, .long 0, .long 0, .ref q237, .ref q239, .ref q241, .ref q243, .ref q245, .long 0, .ref q247, .ref q249])) :: (q147, .inl (c148, 3, .inl (fun _ => 0))) :: (q149, .inl (c150, 4, .inl (fun _ => 0))) :: (q151, .inl (c152, 4, .inl (fun _ => 0))) :: (q153, .inl (c154, 4, .inl (fun _ => 0))) :: (q155, .inl (c156, 4, .inl (fun _ => 0))) :: (q157, .inl (c158, 1024, .inl (fun _ => 0))) :: (q159, .inl (c160, 1024, .inl g144)) :: (q161, .inl (c162, 1024, .inl (fun _ => 0))) :: (q163, .inl (c164, 1024, .inl g145)) :: (q165, .inl (c166, 320, .inl (fun _ => 0))) :: (q167, .inl (c168, 240, .inl (fun _ => 0))) :: (q169, .inl (c170, 240, .inl (fun _ => 0))) :: (q171, .inl (c172, 240, .inl (fun _ => 0))) :: (q173, .inl (c174, 240, .inl (fun _ => 0))) :: (q175, .inl (c176, 40, .inl (fun _ => 0))) :: (q177, .inl (c178, 160, .inl (fun _ => 0))) :: (q179, .inl (c180, 160, .inl (fun _ => 0))) :: (q181, .inl (c182, 160, .inl (fun _ => 0))) :: (q183, .inl (c184, 320, .inl (fun _ => 0))) :: (q185, .inl (c186, 160, .inl (fun _ => 0))) :: (q187, .inl (c188, 2, .inl (fun _ => 0))) :: (q189, .inl (c190, 80, .inl (fun _ => 0))) :: (q191, .inl (c192, 80, .inl (fun _ => 0))) :: (q193, .inl (c194, 80, .inl (fun _ => 0))) :: (q195, .inl (c196, 80, .inl (fun _ => 0))) :: (q197, .inl (c198, 80, .inl (fun _ => 0))) :: (q199, .inl (c200, 80, .inl (fun _ => 0))) :: (q201, .inl (c202, 2000, .inl (fun _ => 0))) :: (q203, .inl (c204, 2000, .inl (fun _ => 0))) :: (q205, .inl (c206, 2000, .inl (fun _ => 0))) :: (q207, .inl (c208, 2000, .inl (fun _ => 0))) :: (q209, .inl (c210, 700, .inl (fun _ => 0))) :: (q211, .inl (c212, 12, .inl (fun _ => 0))) :: (q213, .inl (c214, 12, .inl (fun _ => 0))) :: (q215, .inl (c216, 7, .inl (fun _ => 0))) :: (q217, .inl (c218, 300, .inl (fun _ => 0))) :: (q219, .inl (c220, 256, .inl (fun _ => 0))) :: (q221, .inl (c222, 256, .inl (fun _ => 0))) :: (q223, .inl (c224, 256, .inl (fun _ => 0))) :: (q225, .inl (c226, 256, .inl (fun _ => 0))) :: (q227, .inl (c228, 256, .inl (fun _ => 0))) :: (q229, .inl (c230, 256, .inl (fun _ => 0))) :: (q231, .inl (c232, 256, .inl (fun _ => 0))) :: (q233, .inl (c234, 256, .inl (fun _ => 0))) :: (q235, .inl (c236, 256, .inl (fun _ => 0))) :: (q237, .inl (c238, 256, .inl (fun _ => 0))) :: (q239, .inl (c240, 10, .inl (fun _ => 0))) :: (q241, .inl (c242, 10, .inl (fun _ => 0))) :: (q243, .inl (c244, 10, .inl (fun _ => 0))) :: (q245, .inl (c246, 256, .inl (fun _ => 0))) :: (q247, .inl (c248, 16, .inl (fun _ => 0))) :: (q249, .inl (c250, 16, .inl (fun _ => 0))) :: []) : va_W) = zCells ad (zcy s) g2 g3 g144 g145 := (zkc (zkO gq1 (zkc (congrArg Value.ref gq5) (zkc (congrArg Value.ref gq8) (zkc (congrArg Value.ref gq39) (zkc (congrArg Value.ref gq41) (zkc (congrArg Value.ref gq46) (zkc (congrArg Value.ref gq75) (zkc (congrArg Value.ref gq82) (zkc (congrArg Value.ref gq87) (zkc (congrArg Value.ref gq94) (zkc (congrArg Value.ref gq95) (zkc (congrArg Value.ref gq97) (zkc (congrArg Value.ref gq120) rfl))))))))))))) (zkc (zkO gq5 (zkc (congrArg Value.ref gq6) rfl)) (zkc (zkA gq6 fc7) (zkc (zkO gq8 (zkc (congrArg Value.ref gq9) (zkc (congrArg Value.ref gq11) (zkc (congrArg Value.ref gq13) (zkc (congrArg Value.ref gq15) (zkc (congrArg Value.ref gq17) (zkc (congrArg Value.ref gq19) (zkc (congrArg Value.ref gq21) (zkc (congrArg Value.ref gq23) (zkc (congrArg Value.ref gq25) (zkc (congrArg Value.ref gq27) (zkc (congrArg Value.ref gq29) (zkc (congrArg Value.ref gq31) (zkc (congrArg Value.ref gq33) (zkc (congrArg Value.ref gq35) (zkc (congrArg Value.ref gq37) rfl)))))))))))))))) (zkc (zkA gq9 fc10) (zkc (zkA gq13 fc14) (zkc (zkA gq17 fc18) (zkc (zkA gq19 fc20) (zkc (zkA gq21 fc22) (zkc (zkA gq23 fc24) (zkc (zkA gq25 fc26) (zkc (zkA gq27 fc28) (zkc (zkA gq29 fc30) (zkc (zkA gq31 fc32) (zkc (zkA gq33 fc34) (zkc (zkA gq35 fc36) (zkc (zkA gq37 fc38) (zkc (zkA gq11 fc12) (zkc (zkA gq15 fc16) (zkc (zkA gq39 fc40) (zkc (zkO gq41 (zkc (congrArg Value.ref gq42) (zkc (congrArg Value.ref gq44) (zkc (congrArg Value.ref gq46) (zkc (congrArg Value.ref gq69) (zkc (congrArg Value.ref gq71) (zkc (congrArg Value.ref gq73) rfl))))))) (zkc (zkA gq42 fc43) (zkc (zkA gq44 fc45) (zkc (zkO gq46 (zkc (congrArg Value.ref gq47) (zkc (congrArg Value.ref gq49) (zkc (congrArg Value.ref gq51) (zkc (congrArg Value.ref gq53) (zkc (congrArg Value.ref gq55) (zkc (congrArg Value.ref gq57) (zkc (congrArg Value.ref gq59) (zkc (congrArg Value.ref gq61) (zkc (congrArg Value.ref gq63) (zkc (congrArg Value.ref gq65) (zkc (congrArg Value.ref gq67) rfl)))))))))))) (zkc (zkA gq47 fc48) (zkc (zkA gq49 fc50) (zkc (zkA gq51 fc52) (zkc (zkA gq53 fc54) (zkc (zkA gq55 fc56) (zkc (zkA gq57 fc58) (zkc (zkA gq59 fc60) (zkc (zkA gq61 fc62) (zkc (zkA gq63 fc64) (zkc (zkA gq65 fc66) (zkc (zkA gq67 fc68) (zkc (zkA gq69 fc70) (zkc (zkA gq71 fc72) (zkc (zkA gq73 fc74) (zkc (zkO gq75 (zkc (congrArg Value.ref gq76) (zkc (congrArg Value.ref gq78) (zkc (congrArg Value.ref gq80) rfl)))) (zkc (zkA gq76 fc77) (zkc (zkA gq78 fc79) (zkc (zkA gq80 fc81) (zkc (zkO gq82 (zkc (congrArg Value.ref gq83) (zkc (congrArg Value.ref gq85) rfl))) (zkc (zkA gq83 fc84) (zkc (zkA gq85 fc86) (zkc (zkO gq87 (zkc (congrArg Value.ref gq88) (zkc rfl (zkc (congrArg Value.ref gq90) (zkc (congrArg Value.ref gq92) rfl))))) (zkc (zkA gq88 fc89) (zkc (zkA gq90 fc91) (zkc (zkA gq92 fc93) (zkc (zkO gq94 rfl) (zkc (zkA gq95 fc96) (zkc (zkO gq97 (zkc rfl (zkc rfl (zkc (congrArg Value.ref gq98) (zkc (congrArg Value.ref gq100) (zkc (congrArg Value.ref gq102) (zkc (congrArg Value.ref gq104) (zkc (congrArg Value.ref gq106) (zkc rfl (zkc (congrArg Value.ref gq108) (zkc (congrArg Value.ref gq110) (zkc (congrArg Value.ref gq112) (zkc (congrArg Value.ref gq114) (zkc (congrArg Value.ref gq116) (zkc rfl (zkc (congrArg Value.ref gq118) rfl)))))))))))))))) (zkc (zkA gq98 fc99) (zkc (zkA gq100 fc101) (zkc (zkA gq102 fc103) (zkc (zkA gq104 fc105) (zkc (zkA gq106 fc107) (zkc (zkA gq108 fc109) (zkc (zkA gq110 fc111) (zkc (zkA gq112 fc113) (zkc (zkA gq114 fc115) (zkc (zkA gq116 fc117) (zkc (zkA gq118 fc119) (zkc (zkO gq120 (zkc rfl (zkc rfl (zkc (congrArg Value.ref gq121) (zkc (congrArg Value.ref gq123) (zkc (congrArg Value.ref gq125) (zkc (congrArg Value.ref gq127) (zkc (congrArg Value.ref gq129) (zkc rfl (zkc (congrArg Value.ref gq131) (zkc (congrArg Value.ref gq133) (zkc (congrArg Value.ref gq135) (zkc (congrArg Value.ref gq137) (zkc (congrArg Value.ref gq139) (zkc rfl (zkc (congrArg Value.ref gq141) rfl)))))))))))))))) (zkc (zkA gq121 fc122) (zkc (zkA gq123 fc124) (zkc (zkA gq125 fc126) (zkc (zkA gq127 fc128) (zkc (zkA gq129 fc130) (zkc (zkA gq131 fc132) (zkc (zkA gq133 fc134) (zkc (zkA gq135 fc136) (zkc (zkA gq137 fc138) (zkc (zkA gq139 fc140) (zkc (zkA gq141 fc142) (zkc (zkO gq143 (zkc (congrArg Value.ref gq147) (zkc (congrArg Value.ref gq149) (zkc (congrArg Value.ref gq151) (zkc (congrArg Value.ref gq153) (zkc (congrArg Value.ref gq155) (zkc (congrArg Value.ref gq157) (zkc (congrArg Value.ref gq159) (zkc (congrArg Value.ref gq161) (zkc (congrArg Value.ref gq163) (zkc (congrArg Value.ref gq165) (zkc (congrArg Value.ref gq167) (zkc (congrArg Value.ref gq169) (zkc (congrArg Value.ref gq171) (zkc (congrArg Value.ref gq173) (zkc (congrArg Value.ref gq175) (zkc (congrArg Value.ref gq177) (zkc (congrArg Value.ref gq179) (zkc (congrArg Value.ref gq181) (zkc (congrArg Value.ref gq183) (zkc (congrArg Value.ref gq185) (zkc rfl (zkc (congrArg Value.ref gq187) (zkc (congrArg Value.ref gq189) (zkc (congrArg Value.ref gq191) (zkc (congrArg Value.ref gq193) (zkc (congrArg Value.ref gq195) (zkc (congrArg Value.ref gq197) (zkc (congrArg Value.ref gq199) (zkc rfl (zkc (congrArg Value.ref gq201) (zkc (congrArg Value.ref gq203) (zkc (congrArg Value.ref gq205) (zkc (congrArg Value.ref gq207) (zkc (congrArg Value.ref gq209) (zkc rfl (zkc rfl (zkc rfl (zkc rfl (zkc rfl (zkc rfl (zkc rfl (zkc rfl (zkc rfl (zkc (congrArg Value.ref gq211) (zkc (congrArg Value.ref gq213) (zkc rfl (zkc (congrArg Value.ref gq215) (zkc (congrArg Value.ref gq217) (zkc rfl (zkc rfl (zkc (congrArg Value.ref gq219) (zkc (congrArg Value.ref gq221) (zkc (congrArg Value.ref gq223) (zkc (congrArg Value.ref gq225) (zkc (congrArg Value.ref gq227) (zkc (congrArg Value.ref gq229) (zkc (congrArg Value.ref gq231) (zkc (congrArg Value.ref gq233) (zkc (congrArg Value.ref gq235) (zkc rfl (zkc rfl (zkc rfl (zkc rfl (zkc rfl (zkc rfl (zkc (congrArg Value.ref gq237) (zkc (congrArg Value.ref gq239) (zkc (congrArg Value.ref gq241) (zkc (congrArg Value.ref gq243) (zkc (congrArg Value.ref gq245) (zkc rfl (zkc (congrArg Value.ref gq247) (zkc (congrArg Value.ref gq249) rfl)))))))))))))))))))))))))))))))))))))))))))))))))))))))))))))))))))))))))) (zkc (zkA gq147 fc148) (zkc (zkA gq149 fc150) (zkc (zkA gq151 fc152) (zkc (zkA gq153 fc154) (zkc (zkA gq155 fc156) (zkc (zkA gq157 fc158) (zkc (zkA gq159 fc160) (zkc (zkA gq161 fc162) (zkc (zkA gq163 fc164) (zkc (zkA gq165 fc166) (zkc (zkA gq167 fc168) (zkc (zkA gq169 fc170) (zkc (zkA gq171 fc172) (zkc (zkA gq173 fc174) (zkc (zkA gq175 fc176) (zkc (zkA gq177 fc178) (zkc (zkA gq179 fc180) (zkc (zkA gq181 fc182) (zkc (zkA gq183 fc184) (zkc (zkA gq185 fc186) (zkc (zkA gq187 fc188) (zkc (zkA gq189 fc190) (zkc (zkA gq191 fc192) (zkc (zkA gq193 fc194) (zkc (zkA gq195 fc196) (zkc (zkA gq197 fc198) (zkc (zkA gq199 fc200) (zkc (zkA gq201 fc202) (zkc (zkA gq203 fc204) (zkc (zkA gq205 fc206) (zkc (zkA gq207 fc208) (zkc (zkA gq209 fc210) (zkc (zkA gq211 fc212) (zkc (zkA gq213 fc214) (zkc (zkA gq215 fc216) (zkc (zkA gq217 fc218) (zkc (zkA gq219 fc220) (zkc (zkA gq221 fc222) (zkc (zkA gq223 fc224) (zkc (zkA gq225 fc226) (zkc (zkA gq227 fc228) (zkc (zkA gq229 fc230) (zkc (zkA gq231 fc232) (zkc (zkA gq233 fc234) (zkc (zkA gq235 fc236) (zkc (zkA gq237 fc238) (zkc (zkA gq239 fc240) (zkc (zkA gq241 fc242) (zkc (zkA gq243 fc244) (zkc (zkA gq245 fc246) (zkc (zkA gq247 fc248) (zkc (zkA gq249 fc250) rfl))))))))))))))))))))))))))))))))))))))))))))))))))))))))))))))))))))))))))))))))))))))))))))))))))))))))))))))))))))))))))))))))
  rw [eC] at hP hD
  have hK2 : va_K (dC, dI) zcl (ztys (zKn 0, ad, (dC, dI), zcy s)) s := by
    have h := hK.sub (tys' := [(c7, .int), (c43, .boolean), (c79, .byte), (c93, .long), (c40, .object RX7)]) [0, 17, 34, 40, 16] rfl
    rw [fc7, fc43, fc79, fc93, fc40] at h
    exact h
  have hv2 : vk_S zsn zsl zsb (fun i => ad (1000000 + i)) (fun i => ad (2000000 + i)) A s s.heap := by
    unfold vk_S at hvs ⊢
    refine ⟨fun i hi => ?_, fun i j hi hj e => ?_⟩
    · have h := hvs.1 i hi
      rw [← hadK i hi, ← hadV i hi] at h
      exact h
    · refine hvs.2 i j hi hj ?_
      rw [← hadK i hi, ← hadK j hj]
      exact e
  obtain ⟨h1, h2, h3, h4⟩ := zstart (ad := ad) (D := (dC, dI)) (cy := zcy s) (xg6 := g2) (xg7 := g3) (mgH := g144) (mgM := g145) hP hK2 hD hNw (fun q hq => by rw [hadK _ (zsr_at q hq).1]; exact hsr q hq) hv2 hcs hsf
  exact ⟨(zKn 0, ad, (dC, dI), zcy s), zM0 g2 g3 g144 g145, rfl, h2, h3, h4, zM0_new hu1 hu2, h1, congrArg Value.ref gq143.symm, congrArg Value.ref gq1.symm⟩

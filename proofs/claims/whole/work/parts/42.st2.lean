set_option maxRecDepth 100000 in
set_option maxHeartbeats 8000000 in
theorem zstart {s : State} {H : Heap} {dC : Nat → ClassId} {dI : Nat → Nat → Nat} {A : Nat → Prop} (adS : Nat → Nat) (ax xq1 xq3 xq5 xq9 xq11 xq13 xq15 xq17 xq19 xq21 xq23 xq25 xq27 xq29 xq31 xq33 xq35 xq37 xq39 xq41 xq43 xq45 xq47 xq48 xq50 xq52 xq54 xq56 xq58 xq60 xq62 xq64 xq66 xq68 xq70 xq72 xq74 xq76 xq78 xq80 xq82 xq84 xq86 xq88 xq90 xq92 xq94 xq96 xq98 xq100 xq102 xq104 xq106 xq108 xq110 xq112 xq114 xq116 xq118 xq120 xq122 xq124 xq126 xq128 xq130 xq132 xq134 xq136 xq138 xq140 xq142 xq144 xq146 xq148 am mq1 mq3 mq5 mq7 mq9 mq11 mq13 mq15 mq17 mq19 mq21 mq23 mq25 mq27 mq29 mq31 mq33 mq35 mq37 mq39 mq41 mq43 mq45 mq47 mq49 mq51 mq53 mq55 mq57 mq59 mq61 mq63 mq65 mq67 mq69 mq71 mq73 mq75 mq77 mq79 mq81 mq83 mq85 mq87 mq89 mq91 mq93 mq95 mq97 mq99 mq101 mq103 : Nat) (xc4 xc10 xc12 xc14 xc16 xc18 xc20 xc22 xc24 xc26 xc28 xc30 xc32 xc34 xc36 xc38 xc40 xc44 xc46 xc49 xc51 xc53 xc55 xc57 xc59 xc61 xc63 xc65 xc67 xc69 xc71 xc73 xc75 xc79 xc81 xc83 xc87 xc89 xc93 xc95 xc97 xc101 xc105 xc107 xc109 xc111 xc113 xc115 xc117 xc119 xc121 xc123 xc125 xc129 xc131 xc133 xc135 xc137 xc139 xc141 xc143 xc145 xc147 xc149 mc2 mc4 mc6 mc8 mc10 mc12 mc14 mc16 mc18 mc20 mc22 mc24 mc26 mc28 mc30 mc32 mc34 mc36 mc38 mc40 mc42 mc44 mc46 mc48 mc50 mc52 mc54 mc56 mc58 mc60 mc62 mc64 mc66 mc68 mc70 mc72 mc74 mc76 mc78 mc80 mc82 mc84 mc86 mc88 mc90 mc92 mc94 mc96 mc98 mc100 mc102 mc104 : ClassId) (xg6 xg7 mgH mgM : Nat → Int32)
    (hP : va_P (dC, dI) zcl [(ax, .inr (10, [.ref xq1, .ref xq5, .ref xq39, .ref xq41, .ref xq47, .ref xq76, .ref xq84, .ref xq90, .ref xq98, .ref xq100, .ref xq102, .ref xq126, .int (-1), .int 0, .int 1])), (xq1, .inr (6, [.ref xq3, .int 0, .int 0, .int 0, .int 0, .int 0, .int 0, .int 0])), (xq3, .inl (xc4, 700, .inl (fun _ => 0))), (xq5, .inr (7, [.ref xq9, .ref xq11, .ref xq13, .ref xq15, .ref xq17, .ref xq19, .ref xq21, .ref xq23, .ref xq25, .ref xq27, .ref xq29, .ref xq31, .ref xq33, .ref xq35, .ref xq37, .int 0, .int 0, .int 0, .int 0, .int 0])), (xq9, .inl (xc10, 256, .inl (fun _ => 0))), (xq13, .inl (xc14, 256, .inl (fun _ => 0))), (xq17, .inl (xc18, 16, .inl (fun _ => 0))), (xq19, .inl (xc20, 16, .inl (fun _ => 0))), (xq21, .inl (xc22, 60, .inl (fun _ => 0))), (xq23, .inl (xc24, 60, .inl (fun _ => 0))), (xq25, .inl (xc26, 60, .inl (fun _ => 0))), (xq27, .inl (xc28, 60, .inl (fun _ => 0))), (xq29, .inl (xc30, 10, .inl (fun _ => 0))), (xq31, .inl (xc32, 40, .inl (fun _ => 0))), (xq33, .inl (xc34, 40, .inl (fun _ => 0))), (xq35, .inl (xc36, 40, .inl (fun _ => 0))), (xq37, .inl (xc38, 40, .inl (fun _ => 0))), (xq11, .inl (xc12, 256, .inl xg6)), (xq15, .inl (xc16, 256, .inl xg7)), (xq39, .inl (xc40, 3, .inr (.inr (.inr (.inr (fun _ => none)))))), (xq41, .inr (8, [.ref xq43, .ref xq45, .ref xq47, .ref xq70, .ref xq72, .ref xq74, .int (-1)])), (xq43, .inl (xc44, 256, .inl (fun _ => 0))), (xq45, .inl (xc46, 256, .inl (fun _ => 0))), (xq47, .inr (2, [.ref xq48, .ref xq50, .ref xq52, .ref xq54, .ref xq56, .ref xq58, .ref xq60, .ref xq62, .ref xq64, .ref xq66, .ref xq68])), (xq48, .inl (xc49, 256, .inl (fun _ => 0))), (xq50, .inl (xc51, 256, .inl (fun _ => 0))), (xq52, .inl (xc53, 256, .inl (fun _ => 0))), (xq54, .inl (xc55, 256, .inl (fun _ => 0))), (xq56, .inl (xc57, 256, .inl (fun _ => 0))), (xq58, .inl (xc59, 256, .inl (fun _ => 0))), (xq60, .inl (xc61, 256, .inl (fun _ => 0))), (xq62, .inl (xc63, 256, .inl (fun _ => 0))), (xq64, .inl (xc65, 256, .inl (fun _ => 0))), (xq66, .inl (xc67, 200, .inl (fun _ => 0))), (xq68, .inl (xc69, 8, .inl (fun _ => 0))), (xq70, .inl (xc71, 256, .inl (fun _ => 0))), (xq72, .inl (xc73, 8, .inl (fun _ => 0))), (xq74, .inl (xc75, 16, .inl (fun _ => 0))), (xq76, .inr (4, [.ref xq78, .ref xq80, .ref xq82])), (xq78, .inl (xc79, 100, .inl (fun _ => 0))), (xq80, .inl (xc81, 25600, .inl (fun _ => 0))), (xq82, .inl (xc83, 100, .inl (fun _ => 0))), (xq84, .inr (1, [.ref xq86, .ref xq88])), (xq86, .inl (xc87, 256, .inl (fun _ => 0))), (xq88, .inl (xc89, 256, .inl (fun _ => 0))), (xq90, .inr (9, [.ref xq92, .long 1000000, .ref xq94, .ref xq96, .int 0, .int 0, .int (-1)])), (xq92, .inl (xc93, 10, .inl (fun _ => 0))), (xq94, .inl (xc95, 10, .inl (fun _ => 0))), (xq96, .inl (xc97, 70, .inr (.inl (fun _ => 0)))), (xq98, .inr (5, [.long 0, .long 1])), (xq100, .inl (xc101, 3, .inl (fun _ => 0))), (xq102, .inr (3, [.int 0, .int 0, .ref xq104, .ref xq106, .ref xq108, .ref xq110, .ref xq112, .int 0, .ref xq114, .ref xq116, .ref xq118, .ref xq120, .ref xq122, .int 0, .ref xq124])), (xq104, .inl (xc105, 40, .inl (fun _ => 0))), (xq106, .inl (xc107, 40, .inl (fun _ => 0))), (xq108, .inl (xc109, 40, .inl (fun _ => 0))), (xq110, .inl (xc111, 40, .inl (fun _ => 0))), (xq112, .inl (xc113, 700, .inl (fun _ => 0))), (xq114, .inl (xc115, 100, .inl (fun _ => 0))), (xq116, .inl (xc117, 100, .inl (fun _ => 0))), (xq118, .inl (xc119, 100, .inl (fun _ => 0))), (xq120, .inl (xc121, 100, .inl (fun _ => 0))), (xq122, .inl (xc123, 100, .inl (fun _ => 0))), (xq124, .inl (xc125, 3, .inl (fun _ => 0))), (xq126, .inr (3, [.int 0, .int 0, .ref xq128, .ref xq130, .ref xq132, .ref xq134, .ref xq136, .int 0, .ref xq138, .ref xq140, .ref xq142, .ref xq144, .ref xq146, .int 0, .ref xq148])), (xq128, .inl (xc129, 40, .inl (fun _ => 0))), (xq130, .inl (xc131, 40, .inl (fun _ => 0))), (xq132, .inl (xc133, 40, .inl (fun _ => 0))), (xq134, .inl (xc135, 40, .inl (fun _ => 0))), (xq136, .inl (xc137, 700, .inl (fun _ => 0))), (xq138, .inl (xc139, 100, .inl (fun _ => 0))), (xq140, .inl (xc141, 100, .inl (fun _ => 0))), (xq142, .inl (xc143, 100, .inl (fun _ => 0))), (xq144, .inl (xc145, 100, .inl (fun _ => 0))), (xq146, .inl (xc147, 100, .inl (fun _ => 0))), (xq148, .inl (xc149, 3, .inl (fun _ => 0))), (am, .inr (11, [.ref mq1, .ref mq3, .ref mq5, .ref mq7, .ref mq9, .ref mq11, .ref mq13, .ref mq15, .ref mq17, .ref mq19, .ref mq21, .ref mq23, .ref mq25, .ref mq27, .ref mq29, .ref mq31, .ref mq33, .ref mq35, .ref mq37, .ref mq39, .int 0, .ref mq41, .ref mq43, .ref mq45, .ref mq47, .ref mq49, .ref mq51, .ref mq53, .int 0, .ref mq55, .ref mq57, .ref mq59, .ref mq61, .ref mq63, .int 0, .int (-1), .int 0, .int 0, .int 0, .int 0, .int 0, .long 0, .int 0, .ref mq65, .ref mq67, .int 0, .ref mq69, .ref mq71, .int 0, .int 0, .ref mq73, .ref mq75, .ref mq77, .ref mq79, .ref mq81, .ref mq83, .ref mq85, .ref mq87, .ref mq89, .long 0, .long 0, .int 0, .int 0, .long 0, .long 0, .ref mq91, .ref mq93, .ref mq95, .ref mq97, .ref mq99, .long 0, .ref mq101, .ref mq103])), (mq1, .inl (mc2, 3, .inl (fun _ => 0))), (mq3, .inl (mc4, 4, .inl (fun _ => 0))), (mq5, .inl (mc6, 4, .inl (fun _ => 0))), (mq7, .inl (mc8, 4, .inl (fun _ => 0))), (mq9, .inl (mc10, 4, .inl (fun _ => 0))), (mq11, .inl (mc12, 1024, .inl (fun _ => 0))), (mq13, .inl (mc14, 1024, .inl mgH)), (mq15, .inl (mc16, 1024, .inl (fun _ => 0))), (mq17, .inl (mc18, 1024, .inl mgM)), (mq19, .inl (mc20, 320, .inl (fun _ => 0))), (mq21, .inl (mc22, 240, .inl (fun _ => 0))), (mq23, .inl (mc24, 240, .inl (fun _ => 0))), (mq25, .inl (mc26, 240, .inl (fun _ => 0))), (mq27, .inl (mc28, 240, .inl (fun _ => 0))), (mq29, .inl (mc30, 40, .inl (fun _ => 0))), (mq31, .inl (mc32, 160, .inl (fun _ => 0))), (mq33, .inl (mc34, 160, .inl (fun _ => 0))), (mq35, .inl (mc36, 160, .inl (fun _ => 0))), (mq37, .inl (mc38, 320, .inl (fun _ => 0))), (mq39, .inl (mc40, 160, .inl (fun _ => 0))), (mq41, .inl (mc42, 2, .inl (fun _ => 0))), (mq43, .inl (mc44, 80, .inl (fun _ => 0))), (mq45, .inl (mc46, 80, .inl (fun _ => 0))), (mq47, .inl (mc48, 80, .inl (fun _ => 0))), (mq49, .inl (mc50, 80, .inl (fun _ => 0))), (mq51, .inl (mc52, 80, .inl (fun _ => 0))), (mq53, .inl (mc54, 80, .inl (fun _ => 0))), (mq55, .inl (mc56, 2000, .inl (fun _ => 0))), (mq57, .inl (mc58, 2000, .inl (fun _ => 0))), (mq59, .inl (mc60, 2000, .inl (fun _ => 0))), (mq61, .inl (mc62, 2000, .inl (fun _ => 0))), (mq63, .inl (mc64, 700, .inl (fun _ => 0))), (mq65, .inl (mc66, 12, .inl (fun _ => 0))), (mq67, .inl (mc68, 12, .inl (fun _ => 0))), (mq69, .inl (mc70, 7, .inl (fun _ => 0))), (mq71, .inl (mc72, 300, .inl (fun _ => 0))), (mq73, .inl (mc74, 256, .inl (fun _ => 0))), (mq75, .inl (mc76, 256, .inl (fun _ => 0))), (mq77, .inl (mc78, 256, .inl (fun _ => 0))), (mq79, .inl (mc80, 256, .inl (fun _ => 0))), (mq81, .inl (mc82, 256, .inl (fun _ => 0))), (mq83, .inl (mc84, 256, .inl (fun _ => 0))), (mq85, .inl (mc86, 256, .inl (fun _ => 0))), (mq87, .inl (mc88, 256, .inl (fun _ => 0))), (mq89, .inl (mc90, 256, .inl (fun _ => 0))), (mq91, .inl (mc92, 256, .inl (fun _ => 0))), (mq93, .inl (mc94, 10, .inl (fun _ => 0))), (mq95, .inl (mc96, 10, .inl (fun _ => 0))), (mq97, .inl (mc98, 10, .inl (fun _ => 0))), (mq99, .inl (mc100, 256, .inl (fun _ => 0))), (mq101, .inl (mc102, 16, .inl (fun _ => 0))), (mq103, .inl (mc104, 16, .inl (fun _ => 0)))] H)
    (hK : va_K (dC, dI) zcl [(xc4, .int), (xc10, .int), (xc12, .int), (xc14, .int), (xc16, .int), (xc18, .int), (xc20, .int), (xc22, .int), (xc24, .int), (xc26, .int), (xc28, .int), (xc30, .int), (xc32, .int), (xc34, .int), (xc36, .int), (xc38, .int), (xc40, .object RX7), (xc44, .boolean), (xc46, .int), (xc49, .int), (xc51, .int), (xc53, .int), (xc55, .int), (xc57, .int), (xc59, .int), (xc61, .int), (xc63, .int), (xc65, .int), (xc67, .int), (xc69, .int), (xc71, .int), (xc73, .int), (xc75, .int), (xc79, .int), (xc81, .byte), (xc83, .int), (xc87, .boolean), (xc89, .int), (xc93, .int), (xc95, .int), (xc97, .long), (xc101, .int), (xc105, .int), (xc107, .int), (xc109, .int), (xc111, .int), (xc113, .int), (xc115, .int), (xc117, .int), (xc119, .boolean), (xc121, .boolean), (xc123, .int), (xc125, .int), (xc129, .int), (xc131, .int), (xc133, .int), (xc135, .int), (xc137, .int), (xc139, .int), (xc141, .int), (xc143, .boolean), (xc145, .boolean), (xc147, .int), (xc149, .int), (mc2, .int), (mc4, .int), (mc6, .int), (mc8, .int), (mc10, .int), (mc12, .int), (mc14, .int), (mc16, .int), (mc18, .int), (mc20, .int), (mc22, .int), (mc24, .int), (mc26, .int), (mc28, .int), (mc30, .int), (mc32, .int), (mc34, .int), (mc36, .int), (mc38, .boolean), (mc40, .boolean), (mc42, .int), (mc44, .int), (mc46, .int), (mc48, .int), (mc50, .int), (mc52, .int), (mc54, .int), (mc56, .int), (mc58, .int), (mc60, .int), (mc62, .int), (mc64, .byte), (mc66, .int), (mc68, .int), (mc70, .int), (mc72, .boolean), (mc74, .int), (mc76, .int), (mc78, .int), (mc80, .int), (mc82, .int), (mc84, .boolean), (mc86, .boolean), (mc88, .int), (mc90, .int), (mc92, .boolean), (mc94, .int), (mc96, .int), (mc98, .int), (mc100, .int), (mc102, .int), (mc104, .int)] s)
    (hD : va_D A [(ax, .inr (10, [.ref xq1, .ref xq5, .ref xq39, .ref xq41, .ref xq47, .ref xq76, .ref xq84, .ref xq90, .ref xq98, .ref xq100, .ref xq102, .ref xq126, .int (-1), .int 0, .int 1])), (xq1, .inr (6, [.ref xq3, .int 0, .int 0, .int 0, .int 0, .int 0, .int 0, .int 0])), (xq3, .inl (xc4, 700, .inl (fun _ => 0))), (xq5, .inr (7, [.ref xq9, .ref xq11, .ref xq13, .ref xq15, .ref xq17, .ref xq19, .ref xq21, .ref xq23, .ref xq25, .ref xq27, .ref xq29, .ref xq31, .ref xq33, .ref xq35, .ref xq37, .int 0, .int 0, .int 0, .int 0, .int 0])), (xq9, .inl (xc10, 256, .inl (fun _ => 0))), (xq13, .inl (xc14, 256, .inl (fun _ => 0))), (xq17, .inl (xc18, 16, .inl (fun _ => 0))), (xq19, .inl (xc20, 16, .inl (fun _ => 0))), (xq21, .inl (xc22, 60, .inl (fun _ => 0))), (xq23, .inl (xc24, 60, .inl (fun _ => 0))), (xq25, .inl (xc26, 60, .inl (fun _ => 0))), (xq27, .inl (xc28, 60, .inl (fun _ => 0))), (xq29, .inl (xc30, 10, .inl (fun _ => 0))), (xq31, .inl (xc32, 40, .inl (fun _ => 0))), (xq33, .inl (xc34, 40, .inl (fun _ => 0))), (xq35, .inl (xc36, 40, .inl (fun _ => 0))), (xq37, .inl (xc38, 40, .inl (fun _ => 0))), (xq11, .inl (xc12, 256, .inl xg6)), (xq15, .inl (xc16, 256, .inl xg7)), (xq39, .inl (xc40, 3, .inr (.inr (.inr (.inr (fun _ => none)))))), (xq41, .inr (8, [.ref xq43, .ref xq45, .ref xq47, .ref xq70, .ref xq72, .ref xq74, .int (-1)])), (xq43, .inl (xc44, 256, .inl (fun _ => 0))), (xq45, .inl (xc46, 256, .inl (fun _ => 0))), (xq47, .inr (2, [.ref xq48, .ref xq50, .ref xq52, .ref xq54, .ref xq56, .ref xq58, .ref xq60, .ref xq62, .ref xq64, .ref xq66, .ref xq68])), (xq48, .inl (xc49, 256, .inl (fun _ => 0))), (xq50, .inl (xc51, 256, .inl (fun _ => 0))), (xq52, .inl (xc53, 256, .inl (fun _ => 0))), (xq54, .inl (xc55, 256, .inl (fun _ => 0))), (xq56, .inl (xc57, 256, .inl (fun _ => 0))), (xq58, .inl (xc59, 256, .inl (fun _ => 0))), (xq60, .inl (xc61, 256, .inl (fun _ => 0))), (xq62, .inl (xc63, 256, .inl (fun _ => 0))), (xq64, .inl (xc65, 256, .inl (fun _ => 0))), (xq66, .inl (xc67, 200, .inl (fun _ => 0))), (xq68, .inl (xc69, 8, .inl (fun _ => 0))), (xq70, .inl (xc71, 256, .inl (fun _ => 0))), (xq72, .inl (xc73, 8, .inl (fun _ => 0))), (xq74, .inl (xc75, 16, .inl (fun _ => 0))), (xq76, .inr (4, [.ref xq78, .ref xq80, .ref xq82])), (xq78, .inl (xc79, 100, .inl (fun _ => 0))), (xq80, .inl (xc81, 25600, .inl (fun _ => 0))), (xq82, .inl (xc83, 100, .inl (fun _ => 0))), (xq84, .inr (1, [.ref xq86, .ref xq88])), (xq86, .inl (xc87, 256, .inl (fun _ => 0))), (xq88, .inl (xc89, 256, .inl (fun _ => 0))), (xq90, .inr (9, [.ref xq92, .long 1000000, .ref xq94, .ref xq96, .int 0, .int 0, .int (-1)])), (xq92, .inl (xc93, 10, .inl (fun _ => 0))), (xq94, .inl (xc95, 10, .inl (fun _ => 0))), (xq96, .inl (xc97, 70, .inr (.inl (fun _ => 0)))), (xq98, .inr (5, [.long 0, .long 1])), (xq100, .inl (xc101, 3, .inl (fun _ => 0))), (xq102, .inr (3, [.int 0, .int 0, .ref xq104, .ref xq106, .ref xq108, .ref xq110, .ref xq112, .int 0, .ref xq114, .ref xq116, .ref xq118, .ref xq120, .ref xq122, .int 0, .ref xq124])), (xq104, .inl (xc105, 40, .inl (fun _ => 0))), (xq106, .inl (xc107, 40, .inl (fun _ => 0))), (xq108, .inl (xc109, 40, .inl (fun _ => 0))), (xq110, .inl (xc111, 40, .inl (fun _ => 0))), (xq112, .inl (xc113, 700, .inl (fun _ => 0))), (xq114, .inl (xc115, 100, .inl (fun _ => 0))), (xq116, .inl (xc117, 100, .inl (fun _ => 0))), (xq118, .inl (xc119, 100, .inl (fun _ => 0))), (xq120, .inl (xc121, 100, .inl (fun _ => 0))), (xq122, .inl (xc123, 100, .inl (fun _ => 0))), (xq124, .inl (xc125, 3, .inl (fun _ => 0))), (xq126, .inr (3, [.int 0, .int 0, .ref xq128, .ref xq130, .ref xq132, .ref xq134, .ref xq136, .int 0, .ref xq138, .ref xq140, .ref xq142, .ref xq144, .ref xq146, .int 0, .ref xq148])), (xq128, .inl (xc129, 40, .inl (fun _ => 0))), (xq130, .inl (xc131, 40, .inl (fun _ => 0))), (xq132, .inl (xc133, 40, .inl (fun _ => 0))), (xq134, .inl (xc135, 40, .inl (fun _ => 0))), (xq136, .inl (xc137, 700, .inl (fun _ => 0))), (xq138, .inl (xc139, 100, .inl (fun _ => 0))), (xq140, .inl (xc141, 100, .inl (fun _ => 0))), (xq142, .inl (xc143, 100, .inl (fun _ => 0))), (xq144, .inl (xc145, 100, .inl (fun _ => 0))), (xq146, .inl (xc147, 100, .inl (fun _ => 0))), (xq148, .inl (xc149, 3, .inl (fun _ => 0))), (am, .inr (11, [.ref mq1, .ref mq3, .ref mq5, .ref mq7, .ref mq9, .ref mq11, .ref mq13, .ref mq15, .ref mq17, .ref mq19, .ref mq21, .ref mq23, .ref mq25, .ref mq27, .ref mq29, .ref mq31, .ref mq33, .ref mq35, .ref mq37, .ref mq39, .int 0, .ref mq41, .ref mq43, .ref mq45, .ref mq47, .ref mq49, .ref mq51, .ref mq53, .int 0, .ref mq55, .ref mq57, .ref mq59, .ref mq61, .ref mq63, .int 0, .int (-1), .int 0, .int 0, .int 0, .int 0, .int 0, .long 0, .int 0, .ref mq65, .ref mq67, .int 0, .ref mq69, .ref mq71, .int 0, .int 0, .ref mq73, .ref mq75, .ref mq77, .ref mq79, .ref mq81, .ref mq83, .ref mq85, .ref mq87, .ref mq89, .long 0, .long 0, .int 0, .int 0, .long 0, .long 0, .ref mq91, .ref mq93, .ref mq95, .ref mq97, .ref mq99, .long 0, .ref mq101, .ref mq103])), (mq1, .inl (mc2, 3, .inl (fun _ => 0))), (mq3, .inl (mc4, 4, .inl (fun _ => 0))), (mq5, .inl (mc6, 4, .inl (fun _ => 0))), (mq7, .inl (mc8, 4, .inl (fun _ => 0))), (mq9, .inl (mc10, 4, .inl (fun _ => 0))), (mq11, .inl (mc12, 1024, .inl (fun _ => 0))), (mq13, .inl (mc14, 1024, .inl mgH)), (mq15, .inl (mc16, 1024, .inl (fun _ => 0))), (mq17, .inl (mc18, 1024, .inl mgM)), (mq19, .inl (mc20, 320, .inl (fun _ => 0))), (mq21, .inl (mc22, 240, .inl (fun _ => 0))), (mq23, .inl (mc24, 240, .inl (fun _ => 0))), (mq25, .inl (mc26, 240, .inl (fun _ => 0))), (mq27, .inl (mc28, 240, .inl (fun _ => 0))), (mq29, .inl (mc30, 40, .inl (fun _ => 0))), (mq31, .inl (mc32, 160, .inl (fun _ => 0))), (mq33, .inl (mc34, 160, .inl (fun _ => 0))), (mq35, .inl (mc36, 160, .inl (fun _ => 0))), (mq37, .inl (mc38, 320, .inl (fun _ => 0))), (mq39, .inl (mc40, 160, .inl (fun _ => 0))), (mq41, .inl (mc42, 2, .inl (fun _ => 0))), (mq43, .inl (mc44, 80, .inl (fun _ => 0))), (mq45, .inl (mc46, 80, .inl (fun _ => 0))), (mq47, .inl (mc48, 80, .inl (fun _ => 0))), (mq49, .inl (mc50, 80, .inl (fun _ => 0))), (mq51, .inl (mc52, 80, .inl (fun _ => 0))), (mq53, .inl (mc54, 80, .inl (fun _ => 0))), (mq55, .inl (mc56, 2000, .inl (fun _ => 0))), (mq57, .inl (mc58, 2000, .inl (fun _ => 0))), (mq59, .inl (mc60, 2000, .inl (fun _ => 0))), (mq61, .inl (mc62, 2000, .inl (fun _ => 0))), (mq63, .inl (mc64, 700, .inl (fun _ => 0))), (mq65, .inl (mc66, 12, .inl (fun _ => 0))), (mq67, .inl (mc68, 12, .inl (fun _ => 0))), (mq69, .inl (mc70, 7, .inl (fun _ => 0))), (mq71, .inl (mc72, 300, .inl (fun _ => 0))), (mq73, .inl (mc74, 256, .inl (fun _ => 0))), (mq75, .inl (mc76, 256, .inl (fun _ => 0))), (mq77, .inl (mc78, 256, .inl (fun _ => 0))), (mq79, .inl (mc80, 256, .inl (fun _ => 0))), (mq81, .inl (mc82, 256, .inl (fun _ => 0))), (mq83, .inl (mc84, 256, .inl (fun _ => 0))), (mq85, .inl (mc86, 256, .inl (fun _ => 0))), (mq87, .inl (mc88, 256, .inl (fun _ => 0))), (mq89, .inl (mc90, 256, .inl (fun _ => 0))), (mq91, .inl (mc92, 256, .inl (fun _ => 0))), (mq93, .inl (mc94, 10, .inl (fun _ => 0))), (mq95, .inl (mc96, 10, .inl (fun _ => 0))), (mq97, .inl (mc98, 10, .inl (fun _ => 0))), (mq99, .inl (mc100, 256, .inl (fun _ => 0))), (mq101, .inl (mc102, 16, .inl (fun _ => 0))), (mq103, .inl (mc104, 16, .inl (fun _ => 0)))])
    (hNw : ∀ q ∈ znt, va_Nw (.methodLinkNest q.1 q.2.1 q.2.2.1 q.2.2.2) s) (hsr : ∀ q ∈ zsr, vk_R RX6 q.1 q.2.1 (adS (1000000 + q.2.2)) s) (hvs : vk_S zsn zsl zsb (fun i => adS (1000000 + i)) (fun i => adS (2000000 + i)) A s s.heap) (hz1 : va_Z "java/lang/String" "COMPACT_STRINGS" "Z" (.int 1) A s s.heap) (hz2 : va_Zq "jdk/internal/util/Preconditions" "SIOOBE_FORMATTER" "Ljava/util/function/BiFunction;" A s s.heap) :
    ∃ w : zW, w.1 = zKn 0 ∧ w.2.1 1 = ax ∧ w.2.1 76 = am ∧ zHp w (zM0 xg6 xg7 mgH mgM) H ∧ zWk w ∧ zEv w A s ∧ ∀ r, ztag w.1 r ≠ 0 → A (w.2.1 r) := by
  obtain rfl := zcy_of 20 rfl (hK.2 0 _ rfl).2
  obtain rfl := zcy_of 20 rfl (hK.2 1 _ rfl).2
  obtain rfl := zcy_of 20 rfl (hK.2 2 _ rfl).2
  obtain rfl := zcy_of 20 rfl (hK.2 3 _ rfl).2
  obtain rfl := zcy_of 20 rfl (hK.2 4 _ rfl).2
  obtain rfl := zcy_of 20 rfl (hK.2 5 _ rfl).2
  obtain rfl := zcy_of 20 rfl (hK.2 6 _ rfl).2
  obtain rfl := zcy_of 20 rfl (hK.2 7 _ rfl).2
  obtain rfl := zcy_of 20 rfl (hK.2 8 _ rfl).2
  obtain rfl := zcy_of 20 rfl (hK.2 9 _ rfl).2
  obtain rfl := zcy_of 20 rfl (hK.2 10 _ rfl).2
  obtain rfl := zcy_of 20 rfl (hK.2 11 _ rfl).2
  obtain rfl := zcy_of 20 rfl (hK.2 12 _ rfl).2
  obtain rfl := zcy_of 20 rfl (hK.2 13 _ rfl).2
  obtain rfl := zcy_of 20 rfl (hK.2 14 _ rfl).2
  obtain rfl := zcy_of 20 rfl (hK.2 15 _ rfl).2
  obtain rfl := zcy_of 24 rfl (hK.2 16 _ rfl).2
  obtain rfl := zcy_of 21 rfl (hK.2 17 _ rfl).2
  obtain rfl := zcy_of 20 rfl (hK.2 18 _ rfl).2
  obtain rfl := zcy_of 20 rfl (hK.2 19 _ rfl).2
  obtain rfl := zcy_of 20 rfl (hK.2 20 _ rfl).2
  obtain rfl := zcy_of 20 rfl (hK.2 21 _ rfl).2
  obtain rfl := zcy_of 20 rfl (hK.2 22 _ rfl).2
  obtain rfl := zcy_of 20 rfl (hK.2 23 _ rfl).2
  obtain rfl := zcy_of 20 rfl (hK.2 24 _ rfl).2
  obtain rfl := zcy_of 20 rfl (hK.2 25 _ rfl).2
  obtain rfl := zcy_of 20 rfl (hK.2 26 _ rfl).2
  obtain rfl := zcy_of 20 rfl (hK.2 27 _ rfl).2
  obtain rfl := zcy_of 20 rfl (hK.2 28 _ rfl).2
  obtain rfl := zcy_of 20 rfl (hK.2 29 _ rfl).2
  obtain rfl := zcy_of 20 rfl (hK.2 30 _ rfl).2
  obtain rfl := zcy_of 20 rfl (hK.2 31 _ rfl).2
  obtain rfl := zcy_of 20 rfl (hK.2 32 _ rfl).2
  obtain rfl := zcy_of 20 rfl (hK.2 33 _ rfl).2
  obtain rfl := zcy_of 22 rfl (hK.2 34 _ rfl).2
  obtain rfl := zcy_of 20 rfl (hK.2 35 _ rfl).2
  obtain rfl := zcy_of 21 rfl (hK.2 36 _ rfl).2
  obtain rfl := zcy_of 20 rfl (hK.2 37 _ rfl).2
  obtain rfl := zcy_of 20 rfl (hK.2 38 _ rfl).2
  obtain rfl := zcy_of 20 rfl (hK.2 39 _ rfl).2
  obtain rfl := zcy_of 23 rfl (hK.2 40 _ rfl).2
  obtain rfl := zcy_of 20 rfl (hK.2 41 _ rfl).2
  obtain rfl := zcy_of 20 rfl (hK.2 42 _ rfl).2
  obtain rfl := zcy_of 20 rfl (hK.2 43 _ rfl).2
  obtain rfl := zcy_of 20 rfl (hK.2 44 _ rfl).2
  obtain rfl := zcy_of 20 rfl (hK.2 45 _ rfl).2
  obtain rfl := zcy_of 20 rfl (hK.2 46 _ rfl).2
  obtain rfl := zcy_of 20 rfl (hK.2 47 _ rfl).2
  obtain rfl := zcy_of 20 rfl (hK.2 48 _ rfl).2
  obtain rfl := zcy_of 21 rfl (hK.2 49 _ rfl).2
  obtain rfl := zcy_of 21 rfl (hK.2 50 _ rfl).2
  obtain rfl := zcy_of 20 rfl (hK.2 51 _ rfl).2
  obtain rfl := zcy_of 20 rfl (hK.2 52 _ rfl).2
  obtain rfl := zcy_of 20 rfl (hK.2 53 _ rfl).2
  obtain rfl := zcy_of 20 rfl (hK.2 54 _ rfl).2
  obtain rfl := zcy_of 20 rfl (hK.2 55 _ rfl).2
  obtain rfl := zcy_of 20 rfl (hK.2 56 _ rfl).2
  obtain rfl := zcy_of 20 rfl (hK.2 57 _ rfl).2
  obtain rfl := zcy_of 20 rfl (hK.2 58 _ rfl).2
  obtain rfl := zcy_of 20 rfl (hK.2 59 _ rfl).2
  obtain rfl := zcy_of 21 rfl (hK.2 60 _ rfl).2
  obtain rfl := zcy_of 21 rfl (hK.2 61 _ rfl).2
  obtain rfl := zcy_of 20 rfl (hK.2 62 _ rfl).2
  obtain rfl := zcy_of 20 rfl (hK.2 63 _ rfl).2
  obtain rfl := zcy_of 20 rfl (hK.2 64 _ rfl).2
  obtain rfl := zcy_of 20 rfl (hK.2 65 _ rfl).2
  obtain rfl := zcy_of 20 rfl (hK.2 66 _ rfl).2
  obtain rfl := zcy_of 20 rfl (hK.2 67 _ rfl).2
  obtain rfl := zcy_of 20 rfl (hK.2 68 _ rfl).2
  obtain rfl := zcy_of 20 rfl (hK.2 69 _ rfl).2
  obtain rfl := zcy_of 20 rfl (hK.2 70 _ rfl).2
  obtain rfl := zcy_of 20 rfl (hK.2 71 _ rfl).2
  obtain rfl := zcy_of 20 rfl (hK.2 72 _ rfl).2
  obtain rfl := zcy_of 20 rfl (hK.2 73 _ rfl).2
  obtain rfl := zcy_of 20 rfl (hK.2 74 _ rfl).2
  obtain rfl := zcy_of 20 rfl (hK.2 75 _ rfl).2
  obtain rfl := zcy_of 20 rfl (hK.2 76 _ rfl).2
  obtain rfl := zcy_of 20 rfl (hK.2 77 _ rfl).2
  obtain rfl := zcy_of 20 rfl (hK.2 78 _ rfl).2
  obtain rfl := zcy_of 20 rfl (hK.2 79 _ rfl).2
  obtain rfl := zcy_of 20 rfl (hK.2 80 _ rfl).2
  obtain rfl := zcy_of 20 rfl (hK.2 81 _ rfl).2
  obtain rfl := zcy_of 21 rfl (hK.2 82 _ rfl).2
  obtain rfl := zcy_of 21 rfl (hK.2 83 _ rfl).2
  obtain rfl := zcy_of 20 rfl (hK.2 84 _ rfl).2
  obtain rfl := zcy_of 20 rfl (hK.2 85 _ rfl).2
  obtain rfl := zcy_of 20 rfl (hK.2 86 _ rfl).2
  obtain rfl := zcy_of 20 rfl (hK.2 87 _ rfl).2
  obtain rfl := zcy_of 20 rfl (hK.2 88 _ rfl).2
  obtain rfl := zcy_of 20 rfl (hK.2 89 _ rfl).2
  obtain rfl := zcy_of 20 rfl (hK.2 90 _ rfl).2
  obtain rfl := zcy_of 20 rfl (hK.2 91 _ rfl).2
  obtain rfl := zcy_of 20 rfl (hK.2 92 _ rfl).2
  obtain rfl := zcy_of 20 rfl (hK.2 93 _ rfl).2
  obtain rfl := zcy_of 20 rfl (hK.2 94 _ rfl).2
  obtain rfl := zcy_of 22 rfl (hK.2 95 _ rfl).2
  obtain rfl := zcy_of 20 rfl (hK.2 96 _ rfl).2
  obtain rfl := zcy_of 20 rfl (hK.2 97 _ rfl).2
  obtain rfl := zcy_of 20 rfl (hK.2 98 _ rfl).2
  obtain rfl := zcy_of 21 rfl (hK.2 99 _ rfl).2
  obtain rfl := zcy_of 20 rfl (hK.2 100 _ rfl).2
  obtain rfl := zcy_of 20 rfl (hK.2 101 _ rfl).2
  obtain rfl := zcy_of 20 rfl (hK.2 102 _ rfl).2
  obtain rfl := zcy_of 20 rfl (hK.2 103 _ rfl).2
  obtain rfl := zcy_of 20 rfl (hK.2 104 _ rfl).2
  obtain rfl := zcy_of 21 rfl (hK.2 105 _ rfl).2
  obtain rfl := zcy_of 21 rfl (hK.2 106 _ rfl).2
  obtain rfl := zcy_of 20 rfl (hK.2 107 _ rfl).2
  obtain rfl := zcy_of 20 rfl (hK.2 108 _ rfl).2
  obtain rfl := zcy_of 21 rfl (hK.2 109 _ rfl).2
  obtain rfl := zcy_of 20 rfl (hK.2 110 _ rfl).2
  obtain rfl := zcy_of 20 rfl (hK.2 111 _ rfl).2
  obtain rfl := zcy_of 20 rfl (hK.2 112 _ rfl).2
  obtain rfl := zcy_of 20 rfl (hK.2 113 _ rfl).2
  obtain rfl := zcy_of 20 rfl (hK.2 114 _ rfl).2
  obtain rfl := zcy_of 20 rfl (hK.2 115 _ rfl).2
  obtain ⟨w, hw⟩ : ∃ w : zW, w = (zKn 0, (fun r => if r < 1000000 then ([0, ax, xq1, xq3, xq5, xq9, xq13, xq17, xq19, xq21, xq23, xq25, xq27, xq29, xq31, xq33, xq35, xq37, xq11, xq15, xq39, xq41, xq43, xq45, xq47, xq48, xq50, xq52, xq54, xq56, xq58, xq60, xq62, xq64, xq66, xq68, xq70, xq72, xq74, xq76, xq78, xq80, xq82, xq84, xq86, xq88, xq90, xq92, xq94, xq96, xq98, xq100, xq102, xq104, xq106, xq108, xq110, xq112, xq114, xq116, xq118, xq120, xq122, xq124, xq126, xq128, xq130, xq132, xq134, xq136, xq138, xq140, xq142, xq144, xq146, xq148, am, mq1, mq3, mq5, mq7, mq9, mq11, mq13, mq15, mq17, mq19, mq21, mq23, mq25, mq27, mq29, mq31, mq33, mq35, mq37, mq39, mq41, mq43, mq45, mq47, mq49, mq51, mq53, mq55, mq57, mq59, mq61, mq63, mq65, mq67, mq69, mq71, mq73, mq75, mq77, mq79, mq81, mq83, mq85, mq87, mq89, mq91, mq93, mq95, mq97, mq99, mq101, mq103] : List Nat).getD r 0 else adS r), (dC, dI), zcy s) := ⟨_, rfl⟩
  have wk : w.1 = zKn 0 := by rw [hw]
  have wl : ∀ r, ztag w.1 r ≠ 0 → r < 129 := by
    intro r h
    rw [wk] at h
    rcases Nat.lt_or_ge r 129 with q | q
    · exact q
    · exact absurd (show ztag (zKn 0) r = 0 by unfold ztag zKn; rw [if_neg (by omega)]) h
  have z1 : zok w (zM0 xg6 xg7 mgH mgM) H 1 := by
    rw [hw]
    exact zokO (c := 10) rfl (by decide) rfl (zclN _) (hP 0 _ rfl) (lt_s (lt_s (lt_s (lt_s (lt_s (lt_s (lt_s (lt_s (lt_s (lt_s (lt_s (lt_s (lt_s (lt_s (lt_s (lt_0) (by first | rfl | decide)) (by first | rfl | decide)) (by first | rfl | decide)) (by first | rfl | decide)) (by first | rfl | decide)) (by first | rfl | decide)) (by first | rfl | decide)) (by first | rfl | decide)) (by first | rfl | decide)) (by first | rfl | decide)) (by first | rfl | decide)) (by first | rfl | decide)) (by first | rfl | decide)) (by first | rfl | decide)) (by first | rfl | decide))
  have z2 : zok w (zM0 xg6 xg7 mgH mgM) H 2 := by
    rw [hw]
    exact zokO (c := 6) rfl (by decide) rfl (zclN _) (hP 1 _ rfl) (lt_s (lt_s (lt_s (lt_s (lt_s (lt_s (lt_s (lt_s (lt_0) (by first | rfl | decide)) (by first | rfl | decide)) (by first | rfl | decide)) (by first | rfl | decide)) (by first | rfl | decide)) (by first | rfl | decide)) (by first | rfl | decide)) (by first | rfl | decide))
  have z3 : zok w (zM0 xg6 xg7 mgH mgM) H 3 := by
    rw [hw]
    exact zokI (t := 20) rfl (by decide) rfl rfl (hP 2 _ rfl) (fun _ => rfl)
  have z4 : zok w (zM0 xg6 xg7 mgH mgM) H 4 := by
    rw [hw]
    exact zokO (c := 7) rfl (by decide) rfl (zclN _) (hP 3 _ rfl) (lt_s (lt_s (lt_s (lt_s (lt_s (lt_s (lt_s (lt_s (lt_s (lt_s (lt_s (lt_s (lt_s (lt_s (lt_s (lt_s (lt_s (lt_s (lt_s (lt_s (lt_0) (by first | rfl | decide)) (by first | rfl | decide)) (by first | rfl | decide)) (by first | rfl | decide)) (by first | rfl | decide)) (by first | rfl | decide)) (by first | rfl | decide)) (by first | rfl | decide)) (by first | rfl | decide)) (by first | rfl | decide)) (by first | rfl | decide)) (by first | rfl | decide)) (by first | rfl | decide)) (by first | rfl | decide)) (by first | rfl | decide)) (by first | rfl | decide)) (by first | rfl | decide)) (by first | rfl | decide)) (by first | rfl | decide)) (by first | rfl | decide))
  have z5 : zok w (zM0 xg6 xg7 mgH mgM) H 5 := by
    rw [hw]
    exact zokI (t := 20) rfl (by decide) rfl rfl (hP 4 _ rfl) (fun _ => rfl)
  have z6 : zok w (zM0 xg6 xg7 mgH mgM) H 6 := by
    rw [hw]
    exact zokI (t := 20) rfl (by decide) rfl rfl (hP 5 _ rfl) (fun _ => rfl)
  have z7 : zok w (zM0 xg6 xg7 mgH mgM) H 7 := by
    rw [hw]
    exact zokI (t := 20) rfl (by decide) rfl rfl (hP 6 _ rfl) (fun _ => rfl)
  have z8 : zok w (zM0 xg6 xg7 mgH mgM) H 8 := by
    rw [hw]
    exact zokI (t := 20) rfl (by decide) rfl rfl (hP 7 _ rfl) (fun _ => rfl)
  have z9 : zok w (zM0 xg6 xg7 mgH mgM) H 9 := by
    rw [hw]
    exact zokI (t := 20) rfl (by decide) rfl rfl (hP 8 _ rfl) (fun _ => rfl)
  have z10 : zok w (zM0 xg6 xg7 mgH mgM) H 10 := by
    rw [hw]
    exact zokI (t := 20) rfl (by decide) rfl rfl (hP 9 _ rfl) (fun _ => rfl)
  have z11 : zok w (zM0 xg6 xg7 mgH mgM) H 11 := by
    rw [hw]
    exact zokI (t := 20) rfl (by decide) rfl rfl (hP 10 _ rfl) (fun _ => rfl)
  have z12 : zok w (zM0 xg6 xg7 mgH mgM) H 12 := by
    rw [hw]
    exact zokI (t := 20) rfl (by decide) rfl rfl (hP 11 _ rfl) (fun _ => rfl)
  have z13 : zok w (zM0 xg6 xg7 mgH mgM) H 13 := by
    rw [hw]
    exact zokI (t := 20) rfl (by decide) rfl rfl (hP 12 _ rfl) (fun _ => rfl)
  have z14 : zok w (zM0 xg6 xg7 mgH mgM) H 14 := by
    rw [hw]
    exact zokI (t := 20) rfl (by decide) rfl rfl (hP 13 _ rfl) (fun _ => rfl)
  have z15 : zok w (zM0 xg6 xg7 mgH mgM) H 15 := by
    rw [hw]
    exact zokI (t := 20) rfl (by decide) rfl rfl (hP 14 _ rfl) (fun _ => rfl)
  have z16 : zok w (zM0 xg6 xg7 mgH mgM) H 16 := by
    rw [hw]
    exact zokI (t := 20) rfl (by decide) rfl rfl (hP 15 _ rfl) (fun _ => rfl)
  have z17 : zok w (zM0 xg6 xg7 mgH mgM) H 17 := by
    rw [hw]
    exact zokI (t := 20) rfl (by decide) rfl rfl (hP 16 _ rfl) (fun _ => rfl)
  have z18 : zok w (zM0 xg6 xg7 mgH mgM) H 18 := by
    rw [hw]
    exact zokI (t := 20) rfl (by decide) rfl rfl (hP 17 _ rfl) (fun _ => rfl)
  have z19 : zok w (zM0 xg6 xg7 mgH mgM) H 19 := by
    rw [hw]
    exact zokI (t := 20) rfl (by decide) rfl rfl (hP 18 _ rfl) (fun _ => rfl)
  have z20 : zok w (zM0 xg6 xg7 mgH mgM) H 20 := by
    rw [hw]
    exact zokQ rfl rfl rfl (hP 19 _ rfl) (fun _ => rfl)
  have z21 : zok w (zM0 xg6 xg7 mgH mgM) H 21 := by
    rw [hw]
    exact zokO (c := 8) rfl (by decide) rfl (zclN _) (hP 20 _ rfl) (lt_s (lt_s (lt_s (lt_s (lt_s (lt_s (lt_s (lt_0) (by first | rfl | decide)) (by first | rfl | decide)) (by first | rfl | decide)) (by first | rfl | decide)) (by first | rfl | decide)) (by first | rfl | decide)) (by first | rfl | decide))
  have z22 : zok w (zM0 xg6 xg7 mgH mgM) H 22 := by
    rw [hw]
    exact zokI (t := 21) rfl (by decide) rfl rfl (hP 21 _ rfl) (fun _ => rfl)
  have z23 : zok w (zM0 xg6 xg7 mgH mgM) H 23 := by
    rw [hw]
    exact zokI (t := 20) rfl (by decide) rfl rfl (hP 22 _ rfl) (fun _ => rfl)
  have z24 : zok w (zM0 xg6 xg7 mgH mgM) H 24 := by
    rw [hw]
    exact zokO (c := 2) rfl (by decide) rfl (zclN _) (hP 23 _ rfl) (lt_s (lt_s (lt_s (lt_s (lt_s (lt_s (lt_s (lt_s (lt_s (lt_s (lt_s (lt_0) (by first | rfl | decide)) (by first | rfl | decide)) (by first | rfl | decide)) (by first | rfl | decide)) (by first | rfl | decide)) (by first | rfl | decide)) (by first | rfl | decide)) (by first | rfl | decide)) (by first | rfl | decide)) (by first | rfl | decide)) (by first | rfl | decide))
  have z25 : zok w (zM0 xg6 xg7 mgH mgM) H 25 := by
    rw [hw]
    exact zokI (t := 20) rfl (by decide) rfl rfl (hP 24 _ rfl) (fun _ => rfl)
  have z26 : zok w (zM0 xg6 xg7 mgH mgM) H 26 := by
    rw [hw]
    exact zokI (t := 20) rfl (by decide) rfl rfl (hP 25 _ rfl) (fun _ => rfl)
  have z27 : zok w (zM0 xg6 xg7 mgH mgM) H 27 := by
    rw [hw]
    exact zokI (t := 20) rfl (by decide) rfl rfl (hP 26 _ rfl) (fun _ => rfl)
  have z28 : zok w (zM0 xg6 xg7 mgH mgM) H 28 := by
    rw [hw]
    exact zokI (t := 20) rfl (by decide) rfl rfl (hP 27 _ rfl) (fun _ => rfl)
  have z29 : zok w (zM0 xg6 xg7 mgH mgM) H 29 := by
    rw [hw]
    exact zokI (t := 20) rfl (by decide) rfl rfl (hP 28 _ rfl) (fun _ => rfl)
  have z30 : zok w (zM0 xg6 xg7 mgH mgM) H 30 := by
    rw [hw]
    exact zokI (t := 20) rfl (by decide) rfl rfl (hP 29 _ rfl) (fun _ => rfl)
  have z31 : zok w (zM0 xg6 xg7 mgH mgM) H 31 := by
    rw [hw]
    exact zokI (t := 20) rfl (by decide) rfl rfl (hP 30 _ rfl) (fun _ => rfl)
  have z32 : zok w (zM0 xg6 xg7 mgH mgM) H 32 := by
    rw [hw]
    exact zokI (t := 20) rfl (by decide) rfl rfl (hP 31 _ rfl) (fun _ => rfl)
  have z33 : zok w (zM0 xg6 xg7 mgH mgM) H 33 := by
    rw [hw]
    exact zokI (t := 20) rfl (by decide) rfl rfl (hP 32 _ rfl) (fun _ => rfl)
  have z34 : zok w (zM0 xg6 xg7 mgH mgM) H 34 := by
    rw [hw]
    exact zokI (t := 20) rfl (by decide) rfl rfl (hP 33 _ rfl) (fun _ => rfl)
  have z35 : zok w (zM0 xg6 xg7 mgH mgM) H 35 := by
    rw [hw]
    exact zokI (t := 20) rfl (by decide) rfl rfl (hP 34 _ rfl) (fun _ => rfl)
  have z36 : zok w (zM0 xg6 xg7 mgH mgM) H 36 := by
    rw [hw]
    exact zokI (t := 20) rfl (by decide) rfl rfl (hP 35 _ rfl) (fun _ => rfl)
  have z37 : zok w (zM0 xg6 xg7 mgH mgM) H 37 := by
    rw [hw]
    exact zokI (t := 20) rfl (by decide) rfl rfl (hP 36 _ rfl) (fun _ => rfl)
  have z38 : zok w (zM0 xg6 xg7 mgH mgM) H 38 := by
    rw [hw]
    exact zokI (t := 20) rfl (by decide) rfl rfl (hP 37 _ rfl) (fun _ => rfl)
  have z39 : zok w (zM0 xg6 xg7 mgH mgM) H 39 := by
    rw [hw]
    exact zokO (c := 4) rfl (by decide) rfl (zclN _) (hP 38 _ rfl) (lt_s (lt_s (lt_s (lt_0) (by first | rfl | decide)) (by first | rfl | decide)) (by first | rfl | decide))
  have z40 : zok w (zM0 xg6 xg7 mgH mgM) H 40 := by
    rw [hw]
    exact zokI (t := 20) rfl (by decide) rfl rfl (hP 39 _ rfl) (fun _ => rfl)
  have z41 : zok w (zM0 xg6 xg7 mgH mgM) H 41 := by
    rw [hw]
    exact zokI (t := 22) rfl (by decide) rfl rfl (hP 40 _ rfl) (fun _ => rfl)
  have z42 : zok w (zM0 xg6 xg7 mgH mgM) H 42 := by
    rw [hw]
    exact zokI (t := 20) rfl (by decide) rfl rfl (hP 41 _ rfl) (fun _ => rfl)
  have z43 : zok w (zM0 xg6 xg7 mgH mgM) H 43 := by
    rw [hw]
    exact zokO (c := 1) rfl (by decide) rfl (zclN _) (hP 42 _ rfl) (lt_s (lt_s (lt_0) (by first | rfl | decide)) (by first | rfl | decide))
  have z44 : zok w (zM0 xg6 xg7 mgH mgM) H 44 := by
    rw [hw]
    exact zokI (t := 21) rfl (by decide) rfl rfl (hP 43 _ rfl) (fun _ => rfl)
  have z45 : zok w (zM0 xg6 xg7 mgH mgM) H 45 := by
    rw [hw]
    exact zokI (t := 20) rfl (by decide) rfl rfl (hP 44 _ rfl) (fun _ => rfl)
  have z46 : zok w (zM0 xg6 xg7 mgH mgM) H 46 := by
    rw [hw]
    exact zokO (c := 9) rfl (by decide) rfl (zclN _) (hP 45 _ rfl) (lt_s (lt_s (lt_s (lt_s (lt_s (lt_s (lt_s (lt_0) (by first | rfl | decide)) (by first | rfl | decide)) (by first | rfl | decide)) (by first | rfl | decide)) (by first | rfl | decide)) (by first | rfl | decide)) (by first | rfl | decide))
  have z47 : zok w (zM0 xg6 xg7 mgH mgM) H 47 := by
    rw [hw]
    exact zokI (t := 20) rfl (by decide) rfl rfl (hP 46 _ rfl) (fun _ => rfl)
  have z48 : zok w (zM0 xg6 xg7 mgH mgM) H 48 := by
    rw [hw]
    exact zokI (t := 20) rfl (by decide) rfl rfl (hP 47 _ rfl) (fun _ => rfl)
  have z49 : zok w (zM0 xg6 xg7 mgH mgM) H 49 := by
    rw [hw]
    exact zokJ rfl rfl rfl (hP 48 _ rfl) (fun _ => rfl)
  have z50 : zok w (zM0 xg6 xg7 mgH mgM) H 50 := by
    rw [hw]
    exact zokO (c := 5) rfl (by decide) rfl (zclN _) (hP 49 _ rfl) (lt_s (lt_s (lt_0) (by first | rfl | decide)) (by first | rfl | decide))
  have z51 : zok w (zM0 xg6 xg7 mgH mgM) H 51 := by
    rw [hw]
    exact zokI (t := 20) rfl (by decide) rfl rfl (hP 50 _ rfl) (fun _ => rfl)
  have z52 : zok w (zM0 xg6 xg7 mgH mgM) H 52 := by
    rw [hw]
    exact zokO (c := 3) rfl (by decide) rfl (zclN _) (hP 51 _ rfl) (lt_s (lt_s (lt_s (lt_s (lt_s (lt_s (lt_s (lt_s (lt_s (lt_s (lt_s (lt_s (lt_s (lt_s (lt_s (lt_0) (by first | rfl | decide)) (by first | rfl | decide)) (by first | rfl | decide)) (by first | rfl | decide)) (by first | rfl | decide)) (by first | rfl | decide)) (by first | rfl | decide)) (by first | rfl | decide)) (by first | rfl | decide)) (by first | rfl | decide)) (by first | rfl | decide)) (by first | rfl | decide)) (by first | rfl | decide)) (by first | rfl | decide)) (by first | rfl | decide))
  have z53 : zok w (zM0 xg6 xg7 mgH mgM) H 53 := by
    rw [hw]
    exact zokI (t := 20) rfl (by decide) rfl rfl (hP 52 _ rfl) (fun _ => rfl)
  have z54 : zok w (zM0 xg6 xg7 mgH mgM) H 54 := by
    rw [hw]
    exact zokI (t := 20) rfl (by decide) rfl rfl (hP 53 _ rfl) (fun _ => rfl)
  have z55 : zok w (zM0 xg6 xg7 mgH mgM) H 55 := by
    rw [hw]
    exact zokI (t := 20) rfl (by decide) rfl rfl (hP 54 _ rfl) (fun _ => rfl)
  have z56 : zok w (zM0 xg6 xg7 mgH mgM) H 56 := by
    rw [hw]
    exact zokI (t := 20) rfl (by decide) rfl rfl (hP 55 _ rfl) (fun _ => rfl)
  have z57 : zok w (zM0 xg6 xg7 mgH mgM) H 57 := by
    rw [hw]
    exact zokI (t := 20) rfl (by decide) rfl rfl (hP 56 _ rfl) (fun _ => rfl)
  have z58 : zok w (zM0 xg6 xg7 mgH mgM) H 58 := by
    rw [hw]
    exact zokI (t := 20) rfl (by decide) rfl rfl (hP 57 _ rfl) (fun _ => rfl)
  have z59 : zok w (zM0 xg6 xg7 mgH mgM) H 59 := by
    rw [hw]
    exact zokI (t := 20) rfl (by decide) rfl rfl (hP 58 _ rfl) (fun _ => rfl)
  have z60 : zok w (zM0 xg6 xg7 mgH mgM) H 60 := by
    rw [hw]
    exact zokI (t := 21) rfl (by decide) rfl rfl (hP 59 _ rfl) (fun _ => rfl)
  have z61 : zok w (zM0 xg6 xg7 mgH mgM) H 61 := by
    rw [hw]
    exact zokI (t := 21) rfl (by decide) rfl rfl (hP 60 _ rfl) (fun _ => rfl)
  have z62 : zok w (zM0 xg6 xg7 mgH mgM) H 62 := by
    rw [hw]
    exact zokI (t := 20) rfl (by decide) rfl rfl (hP 61 _ rfl) (fun _ => rfl)
  have z63 : zok w (zM0 xg6 xg7 mgH mgM) H 63 := by
    rw [hw]
    exact zokI (t := 20) rfl (by decide) rfl rfl (hP 62 _ rfl) (fun _ => rfl)
  have z64 : zok w (zM0 xg6 xg7 mgH mgM) H 64 := by
    rw [hw]
    exact zokO (c := 3) rfl (by decide) rfl (zclN _) (hP 63 _ rfl) (lt_s (lt_s (lt_s (lt_s (lt_s (lt_s (lt_s (lt_s (lt_s (lt_s (lt_s (lt_s (lt_s (lt_s (lt_s (lt_0) (by first | rfl | decide)) (by first | rfl | decide)) (by first | rfl | decide)) (by first | rfl | decide)) (by first | rfl | decide)) (by first | rfl | decide)) (by first | rfl | decide)) (by first | rfl | decide)) (by first | rfl | decide)) (by first | rfl | decide)) (by first | rfl | decide)) (by first | rfl | decide)) (by first | rfl | decide)) (by first | rfl | decide)) (by first | rfl | decide))
  have z65 : zok w (zM0 xg6 xg7 mgH mgM) H 65 := by
    rw [hw]
    exact zokI (t := 20) rfl (by decide) rfl rfl (hP 64 _ rfl) (fun _ => rfl)
  have z66 : zok w (zM0 xg6 xg7 mgH mgM) H 66 := by
    rw [hw]
    exact zokI (t := 20) rfl (by decide) rfl rfl (hP 65 _ rfl) (fun _ => rfl)
  have z67 : zok w (zM0 xg6 xg7 mgH mgM) H 67 := by
    rw [hw]
    exact zokI (t := 20) rfl (by decide) rfl rfl (hP 66 _ rfl) (fun _ => rfl)
  have z68 : zok w (zM0 xg6 xg7 mgH mgM) H 68 := by
    rw [hw]
    exact zokI (t := 20) rfl (by decide) rfl rfl (hP 67 _ rfl) (fun _ => rfl)
  have z69 : zok w (zM0 xg6 xg7 mgH mgM) H 69 := by
    rw [hw]
    exact zokI (t := 20) rfl (by decide) rfl rfl (hP 68 _ rfl) (fun _ => rfl)
  have z70 : zok w (zM0 xg6 xg7 mgH mgM) H 70 := by
    rw [hw]
    exact zokI (t := 20) rfl (by decide) rfl rfl (hP 69 _ rfl) (fun _ => rfl)
  have z71 : zok w (zM0 xg6 xg7 mgH mgM) H 71 := by
    rw [hw]
    exact zokI (t := 20) rfl (by decide) rfl rfl (hP 70 _ rfl) (fun _ => rfl)
  have z72 : zok w (zM0 xg6 xg7 mgH mgM) H 72 := by
    rw [hw]
    exact zokI (t := 21) rfl (by decide) rfl rfl (hP 71 _ rfl) (fun _ => rfl)
  have z73 : zok w (zM0 xg6 xg7 mgH mgM) H 73 := by
    rw [hw]
    exact zokI (t := 21) rfl (by decide) rfl rfl (hP 72 _ rfl) (fun _ => rfl)
  have z74 : zok w (zM0 xg6 xg7 mgH mgM) H 74 := by
    rw [hw]
    exact zokI (t := 20) rfl (by decide) rfl rfl (hP 73 _ rfl) (fun _ => rfl)
  have z75 : zok w (zM0 xg6 xg7 mgH mgM) H 75 := by
    rw [hw]
    exact zokI (t := 20) rfl (by decide) rfl rfl (hP 74 _ rfl) (fun _ => rfl)
  have z76 : zok w (zM0 xg6 xg7 mgH mgM) H 76 := by
    rw [hw]
    exact zokO (c := 11) rfl (by decide) rfl (zclN _) (hP 75 _ rfl) (lt_s (lt_s (lt_s (lt_s (lt_s (lt_s (lt_s (lt_s (lt_s (lt_s (lt_s (lt_s (lt_s (lt_s (lt_s (lt_s (lt_s (lt_s (lt_s (lt_s (lt_s (lt_s (lt_s (lt_s (lt_s (lt_s (lt_s (lt_s (lt_s (lt_s (lt_s (lt_s (lt_s (lt_s (lt_s (lt_s (lt_s (lt_s (lt_s (lt_s (lt_s (lt_s (lt_s (lt_s (lt_s (lt_s (lt_s (lt_s (lt_s (lt_s (lt_s (lt_s (lt_s (lt_s (lt_s (lt_s (lt_s (lt_s (lt_s (lt_s (lt_s (lt_s (lt_s (lt_s (lt_s (lt_s (lt_s (lt_s (lt_s (lt_s (lt_s (lt_s (lt_s (lt_0) (by first | rfl | decide)) (by first | rfl | decide)) (by first | rfl | decide)) (by first | rfl | decide)) (by first | rfl | decide)) (by first | rfl | decide)) (by first | rfl | decide)) (by first | rfl | decide)) (by first | rfl | decide)) (by first | rfl | decide)) (by first | rfl | decide)) (by first | rfl | decide)) (by first | rfl | decide)) (by first | rfl | decide)) (by first | rfl | decide)) (by first | rfl | decide)) (by first | rfl | decide)) (by first | rfl | decide)) (by first | rfl | decide)) (by first | rfl | decide)) (by first | rfl | decide)) (by first | rfl | decide)) (by first | rfl | decide)) (by first | rfl | decide)) (by first | rfl | decide)) (by first | rfl | decide)) (by first | rfl | decide)) (by first | rfl | decide)) (by first | rfl | decide)) (by first | rfl | decide)) (by first | rfl | decide)) (by first | rfl | decide)) (by first | rfl | decide)) (by first | rfl | decide)) (by first | rfl | decide)) (by first | rfl | decide)) (by first | rfl | decide)) (by first | rfl | decide)) (by first | rfl | decide)) (by first | rfl | decide)) (by first | rfl | decide)) (by first | rfl | decide)) (by first | rfl | decide)) (by first | rfl | decide)) (by first | rfl | decide)) (by first | rfl | decide)) (by first | rfl | decide)) (by first | rfl | decide)) (by first | rfl | decide)) (by first | rfl | decide)) (by first | rfl | decide)) (by first | rfl | decide)) (by first | rfl | decide)) (by first | rfl | decide)) (by first | rfl | decide)) (by first | rfl | decide)) (by first | rfl | decide)) (by first | rfl | decide)) (by first | rfl | decide)) (by first | rfl | decide)) (by first | rfl | decide)) (by first | rfl | decide)) (by first | rfl | decide)) (by first | rfl | decide)) (by first | rfl | decide)) (by first | rfl | decide)) (by first | rfl | decide)) (by first | rfl | decide)) (by first | rfl | decide)) (by first | rfl | decide)) (by first | rfl | decide)) (by first | rfl | decide)) (by first | rfl | decide))
  have z77 : zok w (zM0 xg6 xg7 mgH mgM) H 77 := by
    rw [hw]
    exact zokI (t := 20) rfl (by decide) rfl rfl (hP 76 _ rfl) (fun _ => rfl)
  have z78 : zok w (zM0 xg6 xg7 mgH mgM) H 78 := by
    rw [hw]
    exact zokI (t := 20) rfl (by decide) rfl rfl (hP 77 _ rfl) (fun _ => rfl)
  have z79 : zok w (zM0 xg6 xg7 mgH mgM) H 79 := by
    rw [hw]
    exact zokI (t := 20) rfl (by decide) rfl rfl (hP 78 _ rfl) (fun _ => rfl)
  have z80 : zok w (zM0 xg6 xg7 mgH mgM) H 80 := by
    rw [hw]
    exact zokI (t := 20) rfl (by decide) rfl rfl (hP 79 _ rfl) (fun _ => rfl)
  have z81 : zok w (zM0 xg6 xg7 mgH mgM) H 81 := by
    rw [hw]
    exact zokI (t := 20) rfl (by decide) rfl rfl (hP 80 _ rfl) (fun _ => rfl)
  have z82 : zok w (zM0 xg6 xg7 mgH mgM) H 82 := by
    rw [hw]
    exact zokI (t := 20) rfl (by decide) rfl rfl (hP 81 _ rfl) (fun _ => rfl)
  have z83 : zok w (zM0 xg6 xg7 mgH mgM) H 83 := by
    rw [hw]
    exact zokI (t := 20) rfl (by decide) rfl rfl (hP 82 _ rfl) (fun _ => rfl)
  have z84 : zok w (zM0 xg6 xg7 mgH mgM) H 84 := by
    rw [hw]
    exact zokI (t := 20) rfl (by decide) rfl rfl (hP 83 _ rfl) (fun _ => rfl)
  have z85 : zok w (zM0 xg6 xg7 mgH mgM) H 85 := by
    rw [hw]
    exact zokI (t := 20) rfl (by decide) rfl rfl (hP 84 _ rfl) (fun _ => rfl)
  have z86 : zok w (zM0 xg6 xg7 mgH mgM) H 86 := by
    rw [hw]
    exact zokI (t := 20) rfl (by decide) rfl rfl (hP 85 _ rfl) (fun _ => rfl)
  have z87 : zok w (zM0 xg6 xg7 mgH mgM) H 87 := by
    rw [hw]
    exact zokI (t := 20) rfl (by decide) rfl rfl (hP 86 _ rfl) (fun _ => rfl)
  have z88 : zok w (zM0 xg6 xg7 mgH mgM) H 88 := by
    rw [hw]
    exact zokI (t := 20) rfl (by decide) rfl rfl (hP 87 _ rfl) (fun _ => rfl)
  have z89 : zok w (zM0 xg6 xg7 mgH mgM) H 89 := by
    rw [hw]
    exact zokI (t := 20) rfl (by decide) rfl rfl (hP 88 _ rfl) (fun _ => rfl)
  have z90 : zok w (zM0 xg6 xg7 mgH mgM) H 90 := by
    rw [hw]
    exact zokI (t := 20) rfl (by decide) rfl rfl (hP 89 _ rfl) (fun _ => rfl)
  have z91 : zok w (zM0 xg6 xg7 mgH mgM) H 91 := by
    rw [hw]
    exact zokI (t := 20) rfl (by decide) rfl rfl (hP 90 _ rfl) (fun _ => rfl)
  have z92 : zok w (zM0 xg6 xg7 mgH mgM) H 92 := by
    rw [hw]
    exact zokI (t := 20) rfl (by decide) rfl rfl (hP 91 _ rfl) (fun _ => rfl)
  have z93 : zok w (zM0 xg6 xg7 mgH mgM) H 93 := by
    rw [hw]
    exact zokI (t := 20) rfl (by decide) rfl rfl (hP 92 _ rfl) (fun _ => rfl)
  have z94 : zok w (zM0 xg6 xg7 mgH mgM) H 94 := by
    rw [hw]
    exact zokI (t := 20) rfl (by decide) rfl rfl (hP 93 _ rfl) (fun _ => rfl)
  have z95 : zok w (zM0 xg6 xg7 mgH mgM) H 95 := by
    rw [hw]
    exact zokI (t := 21) rfl (by decide) rfl rfl (hP 94 _ rfl) (fun _ => rfl)
  have z96 : zok w (zM0 xg6 xg7 mgH mgM) H 96 := by
    rw [hw]
    exact zokI (t := 21) rfl (by decide) rfl rfl (hP 95 _ rfl) (fun _ => rfl)
  have z97 : zok w (zM0 xg6 xg7 mgH mgM) H 97 := by
    rw [hw]
    exact zokI (t := 20) rfl (by decide) rfl rfl (hP 96 _ rfl) (fun _ => rfl)
  have z98 : zok w (zM0 xg6 xg7 mgH mgM) H 98 := by
    rw [hw]
    exact zokI (t := 20) rfl (by decide) rfl rfl (hP 97 _ rfl) (fun _ => rfl)
  have z99 : zok w (zM0 xg6 xg7 mgH mgM) H 99 := by
    rw [hw]
    exact zokI (t := 20) rfl (by decide) rfl rfl (hP 98 _ rfl) (fun _ => rfl)
  have z100 : zok w (zM0 xg6 xg7 mgH mgM) H 100 := by
    rw [hw]
    exact zokI (t := 20) rfl (by decide) rfl rfl (hP 99 _ rfl) (fun _ => rfl)
  have z101 : zok w (zM0 xg6 xg7 mgH mgM) H 101 := by
    rw [hw]
    exact zokI (t := 20) rfl (by decide) rfl rfl (hP 100 _ rfl) (fun _ => rfl)
  have z102 : zok w (zM0 xg6 xg7 mgH mgM) H 102 := by
    rw [hw]
    exact zokI (t := 20) rfl (by decide) rfl rfl (hP 101 _ rfl) (fun _ => rfl)
  have z103 : zok w (zM0 xg6 xg7 mgH mgM) H 103 := by
    rw [hw]
    exact zokI (t := 20) rfl (by decide) rfl rfl (hP 102 _ rfl) (fun _ => rfl)
  have z104 : zok w (zM0 xg6 xg7 mgH mgM) H 104 := by
    rw [hw]
    exact zokI (t := 20) rfl (by decide) rfl rfl (hP 103 _ rfl) (fun _ => rfl)
  have z105 : zok w (zM0 xg6 xg7 mgH mgM) H 105 := by
    rw [hw]
    exact zokI (t := 20) rfl (by decide) rfl rfl (hP 104 _ rfl) (fun _ => rfl)
  have z106 : zok w (zM0 xg6 xg7 mgH mgM) H 106 := by
    rw [hw]
    exact zokI (t := 20) rfl (by decide) rfl rfl (hP 105 _ rfl) (fun _ => rfl)
  have z107 : zok w (zM0 xg6 xg7 mgH mgM) H 107 := by
    rw [hw]
    exact zokI (t := 20) rfl (by decide) rfl rfl (hP 106 _ rfl) (fun _ => rfl)
  have z108 : zok w (zM0 xg6 xg7 mgH mgM) H 108 := by
    rw [hw]
    exact zokI (t := 22) rfl (by decide) rfl rfl (hP 107 _ rfl) (fun _ => rfl)
  have z109 : zok w (zM0 xg6 xg7 mgH mgM) H 109 := by
    rw [hw]
    exact zokI (t := 20) rfl (by decide) rfl rfl (hP 108 _ rfl) (fun _ => rfl)
  have z110 : zok w (zM0 xg6 xg7 mgH mgM) H 110 := by
    rw [hw]
    exact zokI (t := 20) rfl (by decide) rfl rfl (hP 109 _ rfl) (fun _ => rfl)
  have z111 : zok w (zM0 xg6 xg7 mgH mgM) H 111 := by
    rw [hw]
    exact zokI (t := 20) rfl (by decide) rfl rfl (hP 110 _ rfl) (fun _ => rfl)
  have z112 : zok w (zM0 xg6 xg7 mgH mgM) H 112 := by
    rw [hw]
    exact zokI (t := 21) rfl (by decide) rfl rfl (hP 111 _ rfl) (fun _ => rfl)
  have z113 : zok w (zM0 xg6 xg7 mgH mgM) H 113 := by
    rw [hw]
    exact zokI (t := 20) rfl (by decide) rfl rfl (hP 112 _ rfl) (fun _ => rfl)
  have z114 : zok w (zM0 xg6 xg7 mgH mgM) H 114 := by
    rw [hw]
    exact zokI (t := 20) rfl (by decide) rfl rfl (hP 113 _ rfl) (fun _ => rfl)
  have z115 : zok w (zM0 xg6 xg7 mgH mgM) H 115 := by
    rw [hw]
    exact zokI (t := 20) rfl (by decide) rfl rfl (hP 114 _ rfl) (fun _ => rfl)
  have z116 : zok w (zM0 xg6 xg7 mgH mgM) H 116 := by
    rw [hw]
    exact zokI (t := 20) rfl (by decide) rfl rfl (hP 115 _ rfl) (fun _ => rfl)
  have z117 : zok w (zM0 xg6 xg7 mgH mgM) H 117 := by
    rw [hw]
    exact zokI (t := 20) rfl (by decide) rfl rfl (hP 116 _ rfl) (fun _ => rfl)
  have z118 : zok w (zM0 xg6 xg7 mgH mgM) H 118 := by
    rw [hw]
    exact zokI (t := 21) rfl (by decide) rfl rfl (hP 117 _ rfl) (fun _ => rfl)
  have z119 : zok w (zM0 xg6 xg7 mgH mgM) H 119 := by
    rw [hw]
    exact zokI (t := 21) rfl (by decide) rfl rfl (hP 118 _ rfl) (fun _ => rfl)
  have z120 : zok w (zM0 xg6 xg7 mgH mgM) H 120 := by
    rw [hw]
    exact zokI (t := 20) rfl (by decide) rfl rfl (hP 119 _ rfl) (fun _ => rfl)
  have z121 : zok w (zM0 xg6 xg7 mgH mgM) H 121 := by
    rw [hw]
    exact zokI (t := 20) rfl (by decide) rfl rfl (hP 120 _ rfl) (fun _ => rfl)
  have z122 : zok w (zM0 xg6 xg7 mgH mgM) H 122 := by
    rw [hw]
    exact zokI (t := 21) rfl (by decide) rfl rfl (hP 121 _ rfl) (fun _ => rfl)
  have z123 : zok w (zM0 xg6 xg7 mgH mgM) H 123 := by
    rw [hw]
    exact zokI (t := 20) rfl (by decide) rfl rfl (hP 122 _ rfl) (fun _ => rfl)
  have z124 : zok w (zM0 xg6 xg7 mgH mgM) H 124 := by
    rw [hw]
    exact zokI (t := 20) rfl (by decide) rfl rfl (hP 123 _ rfl) (fun _ => rfl)
  have z125 : zok w (zM0 xg6 xg7 mgH mgM) H 125 := by
    rw [hw]
    exact zokI (t := 20) rfl (by decide) rfl rfl (hP 124 _ rfl) (fun _ => rfl)
  have z126 : zok w (zM0 xg6 xg7 mgH mgM) H 126 := by
    rw [hw]
    exact zokI (t := 20) rfl (by decide) rfl rfl (hP 125 _ rfl) (fun _ => rfl)
  have z127 : zok w (zM0 xg6 xg7 mgH mgM) H 127 := by
    rw [hw]
    exact zokI (t := 20) rfl (by decide) rfl rfl (hP 126 _ rfl) (fun _ => rfl)
  have z128 : zok w (zM0 xg6 xg7 mgH mgM) H 128 := by
    rw [hw]
    exact zokI (t := 20) rfl (by decide) rfl rfl (hP 127 _ rfl) (fun _ => rfl)
  have zall : ∀ r, r < 129 → ztag w.1 r ≠ 0 → zok w (zM0 xg6 xg7 mgH mgM) H r := lt_s (lt_s (lt_s (lt_s (lt_s (lt_s (lt_s (lt_s (lt_s (lt_s (lt_s (lt_s (lt_s (lt_s (lt_s (lt_s (lt_s (lt_s (lt_s (lt_s (lt_s (lt_s (lt_s (lt_s (lt_s (lt_s (lt_s (lt_s (lt_s (lt_s (lt_s (lt_s (lt_s (lt_s (lt_s (lt_s (lt_s (lt_s (lt_s (lt_s (lt_s (lt_s (lt_s (lt_s (lt_s (lt_s (lt_s (lt_s (lt_s (lt_s (lt_s (lt_s (lt_s (lt_s (lt_s (lt_s (lt_s (lt_s (lt_s (lt_s (lt_s (lt_s (lt_s (lt_s (lt_s (lt_s (lt_s (lt_s (lt_s (lt_s (lt_s (lt_s (lt_s (lt_s (lt_s (lt_s (lt_s (lt_s (lt_s (lt_s (lt_s (lt_s (lt_s (lt_s (lt_s (lt_s (lt_s (lt_s (lt_s (lt_s (lt_s (lt_s (lt_s (lt_s (lt_s (lt_s (lt_s (lt_s (lt_s (lt_s (lt_s (lt_s (lt_s (lt_s (lt_s (lt_s (lt_s (lt_s (lt_s (lt_s (lt_s (lt_s (lt_s (lt_s (lt_s (lt_s (lt_s (lt_s (lt_s (lt_s (lt_s (lt_s (lt_s (lt_s (lt_s (lt_s (lt_s (lt_s (lt_s lt_0 (fun h => absurd (show ztag w.1 0 = 0 by rw [wk]; rfl) h)) (fun _ => z1)) (fun _ => z2)) (fun _ => z3)) (fun _ => z4)) (fun _ => z5)) (fun _ => z6)) (fun _ => z7)) (fun _ => z8)) (fun _ => z9)) (fun _ => z10)) (fun _ => z11)) (fun _ => z12)) (fun _ => z13)) (fun _ => z14)) (fun _ => z15)) (fun _ => z16)) (fun _ => z17)) (fun _ => z18)) (fun _ => z19)) (fun _ => z20)) (fun _ => z21)) (fun _ => z22)) (fun _ => z23)) (fun _ => z24)) (fun _ => z25)) (fun _ => z26)) (fun _ => z27)) (fun _ => z28)) (fun _ => z29)) (fun _ => z30)) (fun _ => z31)) (fun _ => z32)) (fun _ => z33)) (fun _ => z34)) (fun _ => z35)) (fun _ => z36)) (fun _ => z37)) (fun _ => z38)) (fun _ => z39)) (fun _ => z40)) (fun _ => z41)) (fun _ => z42)) (fun _ => z43)) (fun _ => z44)) (fun _ => z45)) (fun _ => z46)) (fun _ => z47)) (fun _ => z48)) (fun _ => z49)) (fun _ => z50)) (fun _ => z51)) (fun _ => z52)) (fun _ => z53)) (fun _ => z54)) (fun _ => z55)) (fun _ => z56)) (fun _ => z57)) (fun _ => z58)) (fun _ => z59)) (fun _ => z60)) (fun _ => z61)) (fun _ => z62)) (fun _ => z63)) (fun _ => z64)) (fun _ => z65)) (fun _ => z66)) (fun _ => z67)) (fun _ => z68)) (fun _ => z69)) (fun _ => z70)) (fun _ => z71)) (fun _ => z72)) (fun _ => z73)) (fun _ => z74)) (fun _ => z75)) (fun _ => z76)) (fun _ => z77)) (fun _ => z78)) (fun _ => z79)) (fun _ => z80)) (fun _ => z81)) (fun _ => z82)) (fun _ => z83)) (fun _ => z84)) (fun _ => z85)) (fun _ => z86)) (fun _ => z87)) (fun _ => z88)) (fun _ => z89)) (fun _ => z90)) (fun _ => z91)) (fun _ => z92)) (fun _ => z93)) (fun _ => z94)) (fun _ => z95)) (fun _ => z96)) (fun _ => z97)) (fun _ => z98)) (fun _ => z99)) (fun _ => z100)) (fun _ => z101)) (fun _ => z102)) (fun _ => z103)) (fun _ => z104)) (fun _ => z105)) (fun _ => z106)) (fun _ => z107)) (fun _ => z108)) (fun _ => z109)) (fun _ => z110)) (fun _ => z111)) (fun _ => z112)) (fun _ => z113)) (fun _ => z114)) (fun _ => z115)) (fun _ => z116)) (fun _ => z117)) (fun _ => z118)) (fun _ => z119)) (fun _ => z120)) (fun _ => z121)) (fun _ => z122)) (fun _ => z123)) (fun _ => z124)) (fun _ => z125)) (fun _ => z126)) (fun _ => z127)) (fun _ => z128)
  have cellAt : ∀ r, ztag w.1 r ≠ 0 → ∃ e, ([(ax, .inr (10, [.ref xq1, .ref xq5, .ref xq39, .ref xq41, .ref xq47, .ref xq76, .ref xq84, .ref xq90, .ref xq98, .ref xq100, .ref xq102, .ref xq126, .int (-1), .int 0, .int 1])), (xq1, .inr (6, [.ref xq3, .int 0, .int 0, .int 0, .int 0, .int 0, .int 0, .int 0])), (xq3, .inl (xc4, 700, .inl (fun _ => 0))), (xq5, .inr (7, [.ref xq9, .ref xq11, .ref xq13, .ref xq15, .ref xq17, .ref xq19, .ref xq21, .ref xq23, .ref xq25, .ref xq27, .ref xq29, .ref xq31, .ref xq33, .ref xq35, .ref xq37, .int 0, .int 0, .int 0, .int 0, .int 0])), (xq9, .inl (xc10, 256, .inl (fun _ => 0))), (xq13, .inl (xc14, 256, .inl (fun _ => 0))), (xq17, .inl (xc18, 16, .inl (fun _ => 0))), (xq19, .inl (xc20, 16, .inl (fun _ => 0))), (xq21, .inl (xc22, 60, .inl (fun _ => 0))), (xq23, .inl (xc24, 60, .inl (fun _ => 0))), (xq25, .inl (xc26, 60, .inl (fun _ => 0))), (xq27, .inl (xc28, 60, .inl (fun _ => 0))), (xq29, .inl (xc30, 10, .inl (fun _ => 0))), (xq31, .inl (xc32, 40, .inl (fun _ => 0))), (xq33, .inl (xc34, 40, .inl (fun _ => 0))), (xq35, .inl (xc36, 40, .inl (fun _ => 0))), (xq37, .inl (xc38, 40, .inl (fun _ => 0))), (xq11, .inl (xc12, 256, .inl xg6)), (xq15, .inl (xc16, 256, .inl xg7)), (xq39, .inl (xc40, 3, .inr (.inr (.inr (.inr (fun _ => none)))))), (xq41, .inr (8, [.ref xq43, .ref xq45, .ref xq47, .ref xq70, .ref xq72, .ref xq74, .int (-1)])), (xq43, .inl (xc44, 256, .inl (fun _ => 0))), (xq45, .inl (xc46, 256, .inl (fun _ => 0))), (xq47, .inr (2, [.ref xq48, .ref xq50, .ref xq52, .ref xq54, .ref xq56, .ref xq58, .ref xq60, .ref xq62, .ref xq64, .ref xq66, .ref xq68])), (xq48, .inl (xc49, 256, .inl (fun _ => 0))), (xq50, .inl (xc51, 256, .inl (fun _ => 0))), (xq52, .inl (xc53, 256, .inl (fun _ => 0))), (xq54, .inl (xc55, 256, .inl (fun _ => 0))), (xq56, .inl (xc57, 256, .inl (fun _ => 0))), (xq58, .inl (xc59, 256, .inl (fun _ => 0))), (xq60, .inl (xc61, 256, .inl (fun _ => 0))), (xq62, .inl (xc63, 256, .inl (fun _ => 0))), (xq64, .inl (xc65, 256, .inl (fun _ => 0))), (xq66, .inl (xc67, 200, .inl (fun _ => 0))), (xq68, .inl (xc69, 8, .inl (fun _ => 0))), (xq70, .inl (xc71, 256, .inl (fun _ => 0))), (xq72, .inl (xc73, 8, .inl (fun _ => 0))), (xq74, .inl (xc75, 16, .inl (fun _ => 0))), (xq76, .inr (4, [.ref xq78, .ref xq80, .ref xq82])), (xq78, .inl (xc79, 100, .inl (fun _ => 0))), (xq80, .inl (xc81, 25600, .inl (fun _ => 0))), (xq82, .inl (xc83, 100, .inl (fun _ => 0))), (xq84, .inr (1, [.ref xq86, .ref xq88])), (xq86, .inl (xc87, 256, .inl (fun _ => 0))), (xq88, .inl (xc89, 256, .inl (fun _ => 0))), (xq90, .inr (9, [.ref xq92, .long 1000000, .ref xq94, .ref xq96, .int 0, .int 0, .int (-1)])), (xq92, .inl (xc93, 10, .inl (fun _ => 0))), (xq94, .inl (xc95, 10, .inl (fun _ => 0))), (xq96, .inl (xc97, 70, .inr (.inl (fun _ => 0)))), (xq98, .inr (5, [.long 0, .long 1])), (xq100, .inl (xc101, 3, .inl (fun _ => 0))), (xq102, .inr (3, [.int 0, .int 0, .ref xq104, .ref xq106, .ref xq108, .ref xq110, .ref xq112, .int 0, .ref xq114, .ref xq116, .ref xq118, .ref xq120, .ref xq122, .int 0, .ref xq124])), (xq104, .inl (xc105, 40, .inl (fun _ => 0))), (xq106, .inl (xc107, 40, .inl (fun _ => 0))), (xq108, .inl (xc109, 40, .inl (fun _ => 0))), (xq110, .inl (xc111, 40, .inl (fun _ => 0))), (xq112, .inl (xc113, 700, .inl (fun _ => 0))), (xq114, .inl (xc115, 100, .inl (fun _ => 0))), (xq116, .inl (xc117, 100, .inl (fun _ => 0))), (xq118, .inl (xc119, 100, .inl (fun _ => 0))), (xq120, .inl (xc121, 100, .inl (fun _ => 0))), (xq122, .inl (xc123, 100, .inl (fun _ => 0))), (xq124, .inl (xc125, 3, .inl (fun _ => 0))), (xq126, .inr (3, [.int 0, .int 0, .ref xq128, .ref xq130, .ref xq132, .ref xq134, .ref xq136, .int 0, .ref xq138, .ref xq140, .ref xq142, .ref xq144, .ref xq146, .int 0, .ref xq148])), (xq128, .inl (xc129, 40, .inl (fun _ => 0))), (xq130, .inl (xc131, 40, .inl (fun _ => 0))), (xq132, .inl (xc133, 40, .inl (fun _ => 0))), (xq134, .inl (xc135, 40, .inl (fun _ => 0))), (xq136, .inl (xc137, 700, .inl (fun _ => 0))), (xq138, .inl (xc139, 100, .inl (fun _ => 0))), (xq140, .inl (xc141, 100, .inl (fun _ => 0))), (xq142, .inl (xc143, 100, .inl (fun _ => 0))), (xq144, .inl (xc145, 100, .inl (fun _ => 0))), (xq146, .inl (xc147, 100, .inl (fun _ => 0))), (xq148, .inl (xc149, 3, .inl (fun _ => 0))), (am, .inr (11, [.ref mq1, .ref mq3, .ref mq5, .ref mq7, .ref mq9, .ref mq11, .ref mq13, .ref mq15, .ref mq17, .ref mq19, .ref mq21, .ref mq23, .ref mq25, .ref mq27, .ref mq29, .ref mq31, .ref mq33, .ref mq35, .ref mq37, .ref mq39, .int 0, .ref mq41, .ref mq43, .ref mq45, .ref mq47, .ref mq49, .ref mq51, .ref mq53, .int 0, .ref mq55, .ref mq57, .ref mq59, .ref mq61, .ref mq63, .int 0, .int (-1), .int 0, .int 0, .int 0, .int 0, .int 0, .long 0, .int 0, .ref mq65, .ref mq67, .int 0, .ref mq69, .ref mq71, .int 0, .int 0, .ref mq73, .ref mq75, .ref mq77, .ref mq79, .ref mq81, .ref mq83, .ref mq85, .ref mq87, .ref mq89, .long 0, .long 0, .int 0, .int 0, .long 0, .long 0, .ref mq91, .ref mq93, .ref mq95, .ref mq97, .ref mq99, .long 0, .ref mq101, .ref mq103])), (mq1, .inl (mc2, 3, .inl (fun _ => 0))), (mq3, .inl (mc4, 4, .inl (fun _ => 0))), (mq5, .inl (mc6, 4, .inl (fun _ => 0))), (mq7, .inl (mc8, 4, .inl (fun _ => 0))), (mq9, .inl (mc10, 4, .inl (fun _ => 0))), (mq11, .inl (mc12, 1024, .inl (fun _ => 0))), (mq13, .inl (mc14, 1024, .inl mgH)), (mq15, .inl (mc16, 1024, .inl (fun _ => 0))), (mq17, .inl (mc18, 1024, .inl mgM)), (mq19, .inl (mc20, 320, .inl (fun _ => 0))), (mq21, .inl (mc22, 240, .inl (fun _ => 0))), (mq23, .inl (mc24, 240, .inl (fun _ => 0))), (mq25, .inl (mc26, 240, .inl (fun _ => 0))), (mq27, .inl (mc28, 240, .inl (fun _ => 0))), (mq29, .inl (mc30, 40, .inl (fun _ => 0))), (mq31, .inl (mc32, 160, .inl (fun _ => 0))), (mq33, .inl (mc34, 160, .inl (fun _ => 0))), (mq35, .inl (mc36, 160, .inl (fun _ => 0))), (mq37, .inl (mc38, 320, .inl (fun _ => 0))), (mq39, .inl (mc40, 160, .inl (fun _ => 0))), (mq41, .inl (mc42, 2, .inl (fun _ => 0))), (mq43, .inl (mc44, 80, .inl (fun _ => 0))), (mq45, .inl (mc46, 80, .inl (fun _ => 0))), (mq47, .inl (mc48, 80, .inl (fun _ => 0))), (mq49, .inl (mc50, 80, .inl (fun _ => 0))), (mq51, .inl (mc52, 80, .inl (fun _ => 0))), (mq53, .inl (mc54, 80, .inl (fun _ => 0))), (mq55, .inl (mc56, 2000, .inl (fun _ => 0))), (mq57, .inl (mc58, 2000, .inl (fun _ => 0))), (mq59, .inl (mc60, 2000, .inl (fun _ => 0))), (mq61, .inl (mc62, 2000, .inl (fun _ => 0))), (mq63, .inl (mc64, 700, .inl (fun _ => 0))), (mq65, .inl (mc66, 12, .inl (fun _ => 0))), (mq67, .inl (mc68, 12, .inl (fun _ => 0))), (mq69, .inl (mc70, 7, .inl (fun _ => 0))), (mq71, .inl (mc72, 300, .inl (fun _ => 0))), (mq73, .inl (mc74, 256, .inl (fun _ => 0))), (mq75, .inl (mc76, 256, .inl (fun _ => 0))), (mq77, .inl (mc78, 256, .inl (fun _ => 0))), (mq79, .inl (mc80, 256, .inl (fun _ => 0))), (mq81, .inl (mc82, 256, .inl (fun _ => 0))), (mq83, .inl (mc84, 256, .inl (fun _ => 0))), (mq85, .inl (mc86, 256, .inl (fun _ => 0))), (mq87, .inl (mc88, 256, .inl (fun _ => 0))), (mq89, .inl (mc90, 256, .inl (fun _ => 0))), (mq91, .inl (mc92, 256, .inl (fun _ => 0))), (mq93, .inl (mc94, 10, .inl (fun _ => 0))), (mq95, .inl (mc96, 10, .inl (fun _ => 0))), (mq97, .inl (mc98, 10, .inl (fun _ => 0))), (mq99, .inl (mc100, 256, .inl (fun _ => 0))), (mq101, .inl (mc102, 16, .inl (fun _ => 0))), (mq103, .inl (mc104, 16, .inl (fun _ => 0)))] : va_W)[r - 1]? = some (w.2.1 r, e) ∧ 0 < r ∧ r < 129 := by
    intro r hr
    have h : ∀ r, r < 129 → ztag w.1 r ≠ 0 → ∃ e, ([(ax, .inr (10, [.ref xq1, .ref xq5, .ref xq39, .ref xq41, .ref xq47, .ref xq76, .ref xq84, .ref xq90, .ref xq98, .ref xq100, .ref xq102, .ref xq126, .int (-1), .int 0, .int 1])), (xq1, .inr (6, [.ref xq3, .int 0, .int 0, .int 0, .int 0, .int 0, .int 0, .int 0])), (xq3, .inl (xc4, 700, .inl (fun _ => 0))), (xq5, .inr (7, [.ref xq9, .ref xq11, .ref xq13, .ref xq15, .ref xq17, .ref xq19, .ref xq21, .ref xq23, .ref xq25, .ref xq27, .ref xq29, .ref xq31, .ref xq33, .ref xq35, .ref xq37, .int 0, .int 0, .int 0, .int 0, .int 0])), (xq9, .inl (xc10, 256, .inl (fun _ => 0))), (xq13, .inl (xc14, 256, .inl (fun _ => 0))), (xq17, .inl (xc18, 16, .inl (fun _ => 0))), (xq19, .inl (xc20, 16, .inl (fun _ => 0))), (xq21, .inl (xc22, 60, .inl (fun _ => 0))), (xq23, .inl (xc24, 60, .inl (fun _ => 0))), (xq25, .inl (xc26, 60, .inl (fun _ => 0))), (xq27, .inl (xc28, 60, .inl (fun _ => 0))), (xq29, .inl (xc30, 10, .inl (fun _ => 0))), (xq31, .inl (xc32, 40, .inl (fun _ => 0))), (xq33, .inl (xc34, 40, .inl (fun _ => 0))), (xq35, .inl (xc36, 40, .inl (fun _ => 0))), (xq37, .inl (xc38, 40, .inl (fun _ => 0))), (xq11, .inl (xc12, 256, .inl xg6)), (xq15, .inl (xc16, 256, .inl xg7)), (xq39, .inl (xc40, 3, .inr (.inr (.inr (.inr (fun _ => none)))))), (xq41, .inr (8, [.ref xq43, .ref xq45, .ref xq47, .ref xq70, .ref xq72, .ref xq74, .int (-1)])), (xq43, .inl (xc44, 256, .inl (fun _ => 0))), (xq45, .inl (xc46, 256, .inl (fun _ => 0))), (xq47, .inr (2, [.ref xq48, .ref xq50, .ref xq52, .ref xq54, .ref xq56, .ref xq58, .ref xq60, .ref xq62, .ref xq64, .ref xq66, .ref xq68])), (xq48, .inl (xc49, 256, .inl (fun _ => 0))), (xq50, .inl (xc51, 256, .inl (fun _ => 0))), (xq52, .inl (xc53, 256, .inl (fun _ => 0))), (xq54, .inl (xc55, 256, .inl (fun _ => 0))), (xq56, .inl (xc57, 256, .inl (fun _ => 0))), (xq58, .inl (xc59, 256, .inl (fun _ => 0))), (xq60, .inl (xc61, 256, .inl (fun _ => 0))), (xq62, .inl (xc63, 256, .inl (fun _ => 0))), (xq64, .inl (xc65, 256, .inl (fun _ => 0))), (xq66, .inl (xc67, 200, .inl (fun _ => 0))), (xq68, .inl (xc69, 8, .inl (fun _ => 0))), (xq70, .inl (xc71, 256, .inl (fun _ => 0))), (xq72, .inl (xc73, 8, .inl (fun _ => 0))), (xq74, .inl (xc75, 16, .inl (fun _ => 0))), (xq76, .inr (4, [.ref xq78, .ref xq80, .ref xq82])), (xq78, .inl (xc79, 100, .inl (fun _ => 0))), (xq80, .inl (xc81, 25600, .inl (fun _ => 0))), (xq82, .inl (xc83, 100, .inl (fun _ => 0))), (xq84, .inr (1, [.ref xq86, .ref xq88])), (xq86, .inl (xc87, 256, .inl (fun _ => 0))), (xq88, .inl (xc89, 256, .inl (fun _ => 0))), (xq90, .inr (9, [.ref xq92, .long 1000000, .ref xq94, .ref xq96, .int 0, .int 0, .int (-1)])), (xq92, .inl (xc93, 10, .inl (fun _ => 0))), (xq94, .inl (xc95, 10, .inl (fun _ => 0))), (xq96, .inl (xc97, 70, .inr (.inl (fun _ => 0)))), (xq98, .inr (5, [.long 0, .long 1])), (xq100, .inl (xc101, 3, .inl (fun _ => 0))), (xq102, .inr (3, [.int 0, .int 0, .ref xq104, .ref xq106, .ref xq108, .ref xq110, .ref xq112, .int 0, .ref xq114, .ref xq116, .ref xq118, .ref xq120, .ref xq122, .int 0, .ref xq124])), (xq104, .inl (xc105, 40, .inl (fun _ => 0))), (xq106, .inl (xc107, 40, .inl (fun _ => 0))), (xq108, .inl (xc109, 40, .inl (fun _ => 0))), (xq110, .inl (xc111, 40, .inl (fun _ => 0))), (xq112, .inl (xc113, 700, .inl (fun _ => 0))), (xq114, .inl (xc115, 100, .inl (fun _ => 0))), (xq116, .inl (xc117, 100, .inl (fun _ => 0))), (xq118, .inl (xc119, 100, .inl (fun _ => 0))), (xq120, .inl (xc121, 100, .inl (fun _ => 0))), (xq122, .inl (xc123, 100, .inl (fun _ => 0))), (xq124, .inl (xc125, 3, .inl (fun _ => 0))), (xq126, .inr (3, [.int 0, .int 0, .ref xq128, .ref xq130, .ref xq132, .ref xq134, .ref xq136, .int 0, .ref xq138, .ref xq140, .ref xq142, .ref xq144, .ref xq146, .int 0, .ref xq148])), (xq128, .inl (xc129, 40, .inl (fun _ => 0))), (xq130, .inl (xc131, 40, .inl (fun _ => 0))), (xq132, .inl (xc133, 40, .inl (fun _ => 0))), (xq134, .inl (xc135, 40, .inl (fun _ => 0))), (xq136, .inl (xc137, 700, .inl (fun _ => 0))), (xq138, .inl (xc139, 100, .inl (fun _ => 0))), (xq140, .inl (xc141, 100, .inl (fun _ => 0))), (xq142, .inl (xc143, 100, .inl (fun _ => 0))), (xq144, .inl (xc145, 100, .inl (fun _ => 0))), (xq146, .inl (xc147, 100, .inl (fun _ => 0))), (xq148, .inl (xc149, 3, .inl (fun _ => 0))), (am, .inr (11, [.ref mq1, .ref mq3, .ref mq5, .ref mq7, .ref mq9, .ref mq11, .ref mq13, .ref mq15, .ref mq17, .ref mq19, .ref mq21, .ref mq23, .ref mq25, .ref mq27, .ref mq29, .ref mq31, .ref mq33, .ref mq35, .ref mq37, .ref mq39, .int 0, .ref mq41, .ref mq43, .ref mq45, .ref mq47, .ref mq49, .ref mq51, .ref mq53, .int 0, .ref mq55, .ref mq57, .ref mq59, .ref mq61, .ref mq63, .int 0, .int (-1), .int 0, .int 0, .int 0, .int 0, .int 0, .long 0, .int 0, .ref mq65, .ref mq67, .int 0, .ref mq69, .ref mq71, .int 0, .int 0, .ref mq73, .ref mq75, .ref mq77, .ref mq79, .ref mq81, .ref mq83, .ref mq85, .ref mq87, .ref mq89, .long 0, .long 0, .int 0, .int 0, .long 0, .long 0, .ref mq91, .ref mq93, .ref mq95, .ref mq97, .ref mq99, .long 0, .ref mq101, .ref mq103])), (mq1, .inl (mc2, 3, .inl (fun _ => 0))), (mq3, .inl (mc4, 4, .inl (fun _ => 0))), (mq5, .inl (mc6, 4, .inl (fun _ => 0))), (mq7, .inl (mc8, 4, .inl (fun _ => 0))), (mq9, .inl (mc10, 4, .inl (fun _ => 0))), (mq11, .inl (mc12, 1024, .inl (fun _ => 0))), (mq13, .inl (mc14, 1024, .inl mgH)), (mq15, .inl (mc16, 1024, .inl (fun _ => 0))), (mq17, .inl (mc18, 1024, .inl mgM)), (mq19, .inl (mc20, 320, .inl (fun _ => 0))), (mq21, .inl (mc22, 240, .inl (fun _ => 0))), (mq23, .inl (mc24, 240, .inl (fun _ => 0))), (mq25, .inl (mc26, 240, .inl (fun _ => 0))), (mq27, .inl (mc28, 240, .inl (fun _ => 0))), (mq29, .inl (mc30, 40, .inl (fun _ => 0))), (mq31, .inl (mc32, 160, .inl (fun _ => 0))), (mq33, .inl (mc34, 160, .inl (fun _ => 0))), (mq35, .inl (mc36, 160, .inl (fun _ => 0))), (mq37, .inl (mc38, 320, .inl (fun _ => 0))), (mq39, .inl (mc40, 160, .inl (fun _ => 0))), (mq41, .inl (mc42, 2, .inl (fun _ => 0))), (mq43, .inl (mc44, 80, .inl (fun _ => 0))), (mq45, .inl (mc46, 80, .inl (fun _ => 0))), (mq47, .inl (mc48, 80, .inl (fun _ => 0))), (mq49, .inl (mc50, 80, .inl (fun _ => 0))), (mq51, .inl (mc52, 80, .inl (fun _ => 0))), (mq53, .inl (mc54, 80, .inl (fun _ => 0))), (mq55, .inl (mc56, 2000, .inl (fun _ => 0))), (mq57, .inl (mc58, 2000, .inl (fun _ => 0))), (mq59, .inl (mc60, 2000, .inl (fun _ => 0))), (mq61, .inl (mc62, 2000, .inl (fun _ => 0))), (mq63, .inl (mc64, 700, .inl (fun _ => 0))), (mq65, .inl (mc66, 12, .inl (fun _ => 0))), (mq67, .inl (mc68, 12, .inl (fun _ => 0))), (mq69, .inl (mc70, 7, .inl (fun _ => 0))), (mq71, .inl (mc72, 300, .inl (fun _ => 0))), (mq73, .inl (mc74, 256, .inl (fun _ => 0))), (mq75, .inl (mc76, 256, .inl (fun _ => 0))), (mq77, .inl (mc78, 256, .inl (fun _ => 0))), (mq79, .inl (mc80, 256, .inl (fun _ => 0))), (mq81, .inl (mc82, 256, .inl (fun _ => 0))), (mq83, .inl (mc84, 256, .inl (fun _ => 0))), (mq85, .inl (mc86, 256, .inl (fun _ => 0))), (mq87, .inl (mc88, 256, .inl (fun _ => 0))), (mq89, .inl (mc90, 256, .inl (fun _ => 0))), (mq91, .inl (mc92, 256, .inl (fun _ => 0))), (mq93, .inl (mc94, 10, .inl (fun _ => 0))), (mq95, .inl (mc96, 10, .inl (fun _ => 0))), (mq97, .inl (mc98, 10, .inl (fun _ => 0))), (mq99, .inl (mc100, 256, .inl (fun _ => 0))), (mq101, .inl (mc102, 16, .inl (fun _ => 0))), (mq103, .inl (mc104, 16, .inl (fun _ => 0)))] : va_W)[r - 1]? = some (w.2.1 r, e) ∧ 0 < r ∧ r < 129 := lt_s (lt_s (lt_s (lt_s (lt_s (lt_s (lt_s (lt_s (lt_s (lt_s (lt_s (lt_s (lt_s (lt_s (lt_s (lt_s (lt_s (lt_s (lt_s (lt_s (lt_s (lt_s (lt_s (lt_s (lt_s (lt_s (lt_s (lt_s (lt_s (lt_s (lt_s (lt_s (lt_s (lt_s (lt_s (lt_s (lt_s (lt_s (lt_s (lt_s (lt_s (lt_s (lt_s (lt_s (lt_s (lt_s (lt_s (lt_s (lt_s (lt_s (lt_s (lt_s (lt_s (lt_s (lt_s (lt_s (lt_s (lt_s (lt_s (lt_s (lt_s (lt_s (lt_s (lt_s (lt_s (lt_s (lt_s (lt_s (lt_s (lt_s (lt_s (lt_s (lt_s (lt_s (lt_s (lt_s (lt_s (lt_s (lt_s (lt_s (lt_s (lt_s (lt_s (lt_s (lt_s (lt_s (lt_s (lt_s (lt_s (lt_s (lt_s (lt_s (lt_s (lt_s (lt_s (lt_s (lt_s (lt_s (lt_s (lt_s (lt_s (lt_s (lt_s (lt_s (lt_s (lt_s (lt_s (lt_s (lt_s (lt_s (lt_s (lt_s (lt_s (lt_s (lt_s (lt_s (lt_s (lt_s (lt_s (lt_s (lt_s (lt_s (lt_s (lt_s (lt_s (lt_s (lt_s (lt_s (lt_s lt_0 (fun h => absurd (show ztag w.1 0 = 0 by rw [wk]; rfl) h)) (fun _ => ⟨_, by rw [hw]; rfl, by decide, by decide⟩)) (fun _ => ⟨_, by rw [hw]; rfl, by decide, by decide⟩)) (fun _ => ⟨_, by rw [hw]; rfl, by decide, by decide⟩)) (fun _ => ⟨_, by rw [hw]; rfl, by decide, by decide⟩)) (fun _ => ⟨_, by rw [hw]; rfl, by decide, by decide⟩)) (fun _ => ⟨_, by rw [hw]; rfl, by decide, by decide⟩)) (fun _ => ⟨_, by rw [hw]; rfl, by decide, by decide⟩)) (fun _ => ⟨_, by rw [hw]; rfl, by decide, by decide⟩)) (fun _ => ⟨_, by rw [hw]; rfl, by decide, by decide⟩)) (fun _ => ⟨_, by rw [hw]; rfl, by decide, by decide⟩)) (fun _ => ⟨_, by rw [hw]; rfl, by decide, by decide⟩)) (fun _ => ⟨_, by rw [hw]; rfl, by decide, by decide⟩)) (fun _ => ⟨_, by rw [hw]; rfl, by decide, by decide⟩)) (fun _ => ⟨_, by rw [hw]; rfl, by decide, by decide⟩)) (fun _ => ⟨_, by rw [hw]; rfl, by decide, by decide⟩)) (fun _ => ⟨_, by rw [hw]; rfl, by decide, by decide⟩)) (fun _ => ⟨_, by rw [hw]; rfl, by decide, by decide⟩)) (fun _ => ⟨_, by rw [hw]; rfl, by decide, by decide⟩)) (fun _ => ⟨_, by rw [hw]; rfl, by decide, by decide⟩)) (fun _ => ⟨_, by rw [hw]; rfl, by decide, by decide⟩)) (fun _ => ⟨_, by rw [hw]; rfl, by decide, by decide⟩)) (fun _ => ⟨_, by rw [hw]; rfl, by decide, by decide⟩)) (fun _ => ⟨_, by rw [hw]; rfl, by decide, by decide⟩)) (fun _ => ⟨_, by rw [hw]; rfl, by decide, by decide⟩)) (fun _ => ⟨_, by rw [hw]; rfl, by decide, by decide⟩)) (fun _ => ⟨_, by rw [hw]; rfl, by decide, by decide⟩)) (fun _ => ⟨_, by rw [hw]; rfl, by decide, by decide⟩)) (fun _ => ⟨_, by rw [hw]; rfl, by decide, by decide⟩)) (fun _ => ⟨_, by rw [hw]; rfl, by decide, by decide⟩)) (fun _ => ⟨_, by rw [hw]; rfl, by decide, by decide⟩)) (fun _ => ⟨_, by rw [hw]; rfl, by decide, by decide⟩)) (fun _ => ⟨_, by rw [hw]; rfl, by decide, by decide⟩)) (fun _ => ⟨_, by rw [hw]; rfl, by decide, by decide⟩)) (fun _ => ⟨_, by rw [hw]; rfl, by decide, by decide⟩)) (fun _ => ⟨_, by rw [hw]; rfl, by decide, by decide⟩)) (fun _ => ⟨_, by rw [hw]; rfl, by decide, by decide⟩)) (fun _ => ⟨_, by rw [hw]; rfl, by decide, by decide⟩)) (fun _ => ⟨_, by rw [hw]; rfl, by decide, by decide⟩)) (fun _ => ⟨_, by rw [hw]; rfl, by decide, by decide⟩)) (fun _ => ⟨_, by rw [hw]; rfl, by decide, by decide⟩)) (fun _ => ⟨_, by rw [hw]; rfl, by decide, by decide⟩)) (fun _ => ⟨_, by rw [hw]; rfl, by decide, by decide⟩)) (fun _ => ⟨_, by rw [hw]; rfl, by decide, by decide⟩)) (fun _ => ⟨_, by rw [hw]; rfl, by decide, by decide⟩)) (fun _ => ⟨_, by rw [hw]; rfl, by decide, by decide⟩)) (fun _ => ⟨_, by rw [hw]; rfl, by decide, by decide⟩)) (fun _ => ⟨_, by rw [hw]; rfl, by decide, by decide⟩)) (fun _ => ⟨_, by rw [hw]; rfl, by decide, by decide⟩)) (fun _ => ⟨_, by rw [hw]; rfl, by decide, by decide⟩)) (fun _ => ⟨_, by rw [hw]; rfl, by decide, by decide⟩)) (fun _ => ⟨_, by rw [hw]; rfl, by decide, by decide⟩)) (fun _ => ⟨_, by rw [hw]; rfl, by decide, by decide⟩)) (fun _ => ⟨_, by rw [hw]; rfl, by decide, by decide⟩)) (fun _ => ⟨_, by rw [hw]; rfl, by decide, by decide⟩)) (fun _ => ⟨_, by rw [hw]; rfl, by decide, by decide⟩)) (fun _ => ⟨_, by rw [hw]; rfl, by decide, by decide⟩)) (fun _ => ⟨_, by rw [hw]; rfl, by decide, by decide⟩)) (fun _ => ⟨_, by rw [hw]; rfl, by decide, by decide⟩)) (fun _ => ⟨_, by rw [hw]; rfl, by decide, by decide⟩)) (fun _ => ⟨_, by rw [hw]; rfl, by decide, by decide⟩)) (fun _ => ⟨_, by rw [hw]; rfl, by decide, by decide⟩)) (fun _ => ⟨_, by rw [hw]; rfl, by decide, by decide⟩)) (fun _ => ⟨_, by rw [hw]; rfl, by decide, by decide⟩)) (fun _ => ⟨_, by rw [hw]; rfl, by decide, by decide⟩)) (fun _ => ⟨_, by rw [hw]; rfl, by decide, by decide⟩)) (fun _ => ⟨_, by rw [hw]; rfl, by decide, by decide⟩)) (fun _ => ⟨_, by rw [hw]; rfl, by decide, by decide⟩)) (fun _ => ⟨_, by rw [hw]; rfl, by decide, by decide⟩)) (fun _ => ⟨_, by rw [hw]; rfl, by decide, by decide⟩)) (fun _ => ⟨_, by rw [hw]; rfl, by decide, by decide⟩)) (fun _ => ⟨_, by rw [hw]; rfl, by decide, by decide⟩)) (fun _ => ⟨_, by rw [hw]; rfl, by decide, by decide⟩)) (fun _ => ⟨_, by rw [hw]; rfl, by decide, by decide⟩)) (fun _ => ⟨_, by rw [hw]; rfl, by decide, by decide⟩)) (fun _ => ⟨_, by rw [hw]; rfl, by decide, by decide⟩)) (fun _ => ⟨_, by rw [hw]; rfl, by decide, by decide⟩)) (fun _ => ⟨_, by rw [hw]; rfl, by decide, by decide⟩)) (fun _ => ⟨_, by rw [hw]; rfl, by decide, by decide⟩)) (fun _ => ⟨_, by rw [hw]; rfl, by decide, by decide⟩)) (fun _ => ⟨_, by rw [hw]; rfl, by decide, by decide⟩)) (fun _ => ⟨_, by rw [hw]; rfl, by decide, by decide⟩)) (fun _ => ⟨_, by rw [hw]; rfl, by decide, by decide⟩)) (fun _ => ⟨_, by rw [hw]; rfl, by decide, by decide⟩)) (fun _ => ⟨_, by rw [hw]; rfl, by decide, by decide⟩)) (fun _ => ⟨_, by rw [hw]; rfl, by decide, by decide⟩)) (fun _ => ⟨_, by rw [hw]; rfl, by decide, by decide⟩)) (fun _ => ⟨_, by rw [hw]; rfl, by decide, by decide⟩)) (fun _ => ⟨_, by rw [hw]; rfl, by decide, by decide⟩)) (fun _ => ⟨_, by rw [hw]; rfl, by decide, by decide⟩)) (fun _ => ⟨_, by rw [hw]; rfl, by decide, by decide⟩)) (fun _ => ⟨_, by rw [hw]; rfl, by decide, by decide⟩)) (fun _ => ⟨_, by rw [hw]; rfl, by decide, by decide⟩)) (fun _ => ⟨_, by rw [hw]; rfl, by decide, by decide⟩)) (fun _ => ⟨_, by rw [hw]; rfl, by decide, by decide⟩)) (fun _ => ⟨_, by rw [hw]; rfl, by decide, by decide⟩)) (fun _ => ⟨_, by rw [hw]; rfl, by decide, by decide⟩)) (fun _ => ⟨_, by rw [hw]; rfl, by decide, by decide⟩)) (fun _ => ⟨_, by rw [hw]; rfl, by decide, by decide⟩)) (fun _ => ⟨_, by rw [hw]; rfl, by decide, by decide⟩)) (fun _ => ⟨_, by rw [hw]; rfl, by decide, by decide⟩)) (fun _ => ⟨_, by rw [hw]; rfl, by decide, by decide⟩)) (fun _ => ⟨_, by rw [hw]; rfl, by decide, by decide⟩)) (fun _ => ⟨_, by rw [hw]; rfl, by decide, by decide⟩)) (fun _ => ⟨_, by rw [hw]; rfl, by decide, by decide⟩)) (fun _ => ⟨_, by rw [hw]; rfl, by decide, by decide⟩)) (fun _ => ⟨_, by rw [hw]; rfl, by decide, by decide⟩)) (fun _ => ⟨_, by rw [hw]; rfl, by decide, by decide⟩)) (fun _ => ⟨_, by rw [hw]; rfl, by decide, by decide⟩)) (fun _ => ⟨_, by rw [hw]; rfl, by decide, by decide⟩)) (fun _ => ⟨_, by rw [hw]; rfl, by decide, by decide⟩)) (fun _ => ⟨_, by rw [hw]; rfl, by decide, by decide⟩)) (fun _ => ⟨_, by rw [hw]; rfl, by decide, by decide⟩)) (fun _ => ⟨_, by rw [hw]; rfl, by decide, by decide⟩)) (fun _ => ⟨_, by rw [hw]; rfl, by decide, by decide⟩)) (fun _ => ⟨_, by rw [hw]; rfl, by decide, by decide⟩)) (fun _ => ⟨_, by rw [hw]; rfl, by decide, by decide⟩)) (fun _ => ⟨_, by rw [hw]; rfl, by decide, by decide⟩)) (fun _ => ⟨_, by rw [hw]; rfl, by decide, by decide⟩)) (fun _ => ⟨_, by rw [hw]; rfl, by decide, by decide⟩)) (fun _ => ⟨_, by rw [hw]; rfl, by decide, by decide⟩)) (fun _ => ⟨_, by rw [hw]; rfl, by decide, by decide⟩)) (fun _ => ⟨_, by rw [hw]; rfl, by decide, by decide⟩)) (fun _ => ⟨_, by rw [hw]; rfl, by decide, by decide⟩)) (fun _ => ⟨_, by rw [hw]; rfl, by decide, by decide⟩)) (fun _ => ⟨_, by rw [hw]; rfl, by decide, by decide⟩)) (fun _ => ⟨_, by rw [hw]; rfl, by decide, by decide⟩)) (fun _ => ⟨_, by rw [hw]; rfl, by decide, by decide⟩)) (fun _ => ⟨_, by rw [hw]; rfl, by decide, by decide⟩)
    exact h r (wl r hr) hr
  refine ⟨w, wk, by rw [hw]; rfl, by rw [hw]; rfl, fun r hr => zall r (wl r hr) hr, ⟨by rw [wk]; exact zTyn (by decide), fun r q hr hq e => ?_⟩, ⟨⟨by rw [hw]; exact hK.1, ?_⟩, hNw, ?_, ?_, hz1, hz2⟩, fun r hr => ?_⟩
  · obtain ⟨e1, h1, p1, p2⟩ := cellAt r hr
    obtain ⟨e2, h2, p3, p4⟩ := cellAt q hq
    have := hD.1 _ _ _ _ h1 h2 e
    omega
  · rw [hw]
    intro k q hk
    match k, hk with
    | 0, hk => cases hk; exact hK.2 0 _ rfl
    | 1, hk => cases hk; exact hK.2 17 _ rfl
    | 2, hk => cases hk; exact hK.2 34 _ rfl
    | 3, hk => cases hk; exact hK.2 40 _ rfl
    | 4, hk => cases hk; exact hK.2 16 _ rfl
    | k + 5, hk => simp [ztys] at hk
  · rw [hw]
    intro q hq
    show vk_R RX6 q.1 q.2.1 (if 1000000 + q.2.2 < 1000000 then _ else adS (1000000 + q.2.2)) s
    rw [if_neg (by omega)]
    exact hsr q hq
  · rw [hw]
    have e1 : (fun i => (if 1000000 + i < 1000000 then ([0, ax, xq1, xq3, xq5, xq9, xq13, xq17, xq19, xq21, xq23, xq25, xq27, xq29, xq31, xq33, xq35, xq37, xq11, xq15, xq39, xq41, xq43, xq45, xq47, xq48, xq50, xq52, xq54, xq56, xq58, xq60, xq62, xq64, xq66, xq68, xq70, xq72, xq74, xq76, xq78, xq80, xq82, xq84, xq86, xq88, xq90, xq92, xq94, xq96, xq98, xq100, xq102, xq104, xq106, xq108, xq110, xq112, xq114, xq116, xq118, xq120, xq122, xq124, xq126, xq128, xq130, xq132, xq134, xq136, xq138, xq140, xq142, xq144, xq146, xq148, am, mq1, mq3, mq5, mq7, mq9, mq11, mq13, mq15, mq17, mq19, mq21, mq23, mq25, mq27, mq29, mq31, mq33, mq35, mq37, mq39, mq41, mq43, mq45, mq47, mq49, mq51, mq53, mq55, mq57, mq59, mq61, mq63, mq65, mq67, mq69, mq71, mq73, mq75, mq77, mq79, mq81, mq83, mq85, mq87, mq89, mq91, mq93, mq95, mq97, mq99, mq101, mq103] : List Nat).getD (1000000 + i) 0 else adS (1000000 + i))) = fun i => adS (1000000 + i) := by funext i; rw [if_neg (by omega)]
    have e2 : (fun i => (if 2000000 + i < 1000000 then ([0, ax, xq1, xq3, xq5, xq9, xq13, xq17, xq19, xq21, xq23, xq25, xq27, xq29, xq31, xq33, xq35, xq37, xq11, xq15, xq39, xq41, xq43, xq45, xq47, xq48, xq50, xq52, xq54, xq56, xq58, xq60, xq62, xq64, xq66, xq68, xq70, xq72, xq74, xq76, xq78, xq80, xq82, xq84, xq86, xq88, xq90, xq92, xq94, xq96, xq98, xq100, xq102, xq104, xq106, xq108, xq110, xq112, xq114, xq116, xq118, xq120, xq122, xq124, xq126, xq128, xq130, xq132, xq134, xq136, xq138, xq140, xq142, xq144, xq146, xq148, am, mq1, mq3, mq5, mq7, mq9, mq11, mq13, mq15, mq17, mq19, mq21, mq23, mq25, mq27, mq29, mq31, mq33, mq35, mq37, mq39, mq41, mq43, mq45, mq47, mq49, mq51, mq53, mq55, mq57, mq59, mq61, mq63, mq65, mq67, mq69, mq71, mq73, mq75, mq77, mq79, mq81, mq83, mq85, mq87, mq89, mq91, mq93, mq95, mq97, mq99, mq101, mq103] : List Nat).getD (2000000 + i) 0 else adS (2000000 + i))) = fun i => adS (2000000 + i) := by funext i; rw [if_neg (by omega)]
    show vk_S zsn zsl zsb (fun i => (if 1000000 + i < 1000000 then ([0, ax, xq1, xq3, xq5, xq9, xq13, xq17, xq19, xq21, xq23, xq25, xq27, xq29, xq31, xq33, xq35, xq37, xq11, xq15, xq39, xq41, xq43, xq45, xq47, xq48, xq50, xq52, xq54, xq56, xq58, xq60, xq62, xq64, xq66, xq68, xq70, xq72, xq74, xq76, xq78, xq80, xq82, xq84, xq86, xq88, xq90, xq92, xq94, xq96, xq98, xq100, xq102, xq104, xq106, xq108, xq110, xq112, xq114, xq116, xq118, xq120, xq122, xq124, xq126, xq128, xq130, xq132, xq134, xq136, xq138, xq140, xq142, xq144, xq146, xq148, am, mq1, mq3, mq5, mq7, mq9, mq11, mq13, mq15, mq17, mq19, mq21, mq23, mq25, mq27, mq29, mq31, mq33, mq35, mq37, mq39, mq41, mq43, mq45, mq47, mq49, mq51, mq53, mq55, mq57, mq59, mq61, mq63, mq65, mq67, mq69, mq71, mq73, mq75, mq77, mq79, mq81, mq83, mq85, mq87, mq89, mq91, mq93, mq95, mq97, mq99, mq101, mq103] : List Nat).getD (1000000 + i) 0 else adS (1000000 + i))) (fun i => (if 2000000 + i < 1000000 then ([0, ax, xq1, xq3, xq5, xq9, xq13, xq17, xq19, xq21, xq23, xq25, xq27, xq29, xq31, xq33, xq35, xq37, xq11, xq15, xq39, xq41, xq43, xq45, xq47, xq48, xq50, xq52, xq54, xq56, xq58, xq60, xq62, xq64, xq66, xq68, xq70, xq72, xq74, xq76, xq78, xq80, xq82, xq84, xq86, xq88, xq90, xq92, xq94, xq96, xq98, xq100, xq102, xq104, xq106, xq108, xq110, xq112, xq114, xq116, xq118, xq120, xq122, xq124, xq126, xq128, xq130, xq132, xq134, xq136, xq138, xq140, xq142, xq144, xq146, xq148, am, mq1, mq3, mq5, mq7, mq9, mq11, mq13, mq15, mq17, mq19, mq21, mq23, mq25, mq27, mq29, mq31, mq33, mq35, mq37, mq39, mq41, mq43, mq45, mq47, mq49, mq51, mq53, mq55, mq57, mq59, mq61, mq63, mq65, mq67, mq69, mq71, mq73, mq75, mq77, mq79, mq81, mq83, mq85, mq87, mq89, mq91, mq93, mq95, mq97, mq99, mq101, mq103] : List Nat).getD (2000000 + i) 0 else adS (2000000 + i))) A s s.heap
    rw [e1, e2]
    exact hvs
  · obtain ⟨e1, h1, -⟩ := cellAt r hr
    exact hD.2 _ _ h1

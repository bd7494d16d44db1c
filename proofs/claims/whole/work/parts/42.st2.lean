def zCells (ad : Nat → Nat) (cy : Nat → ClassId) (xg6 xg7 mgH mgM : Nat → Int32) : va_W := [
  (ad 1, .inr (10, [.ref (ad 2), .ref (ad 4), .ref (ad 20), .ref (ad 21), .ref (ad 24), .ref (ad 39), .ref (ad 43), .ref (ad 46), .ref (ad 50), .ref (ad 51), .ref (ad 52), .ref (ad 64), .int (-1), .int 0, .int 1])),
  (ad 2, .inr (6, [.ref (ad 3), .int 0, .int 0, .int 0, .int 0, .int 0, .int 0, .int 0])),
  (ad 3, .inl (cy 20, 700, .inl (fun _ => 0))),
  (ad 4, .inr (7, [.ref (ad 5), .ref (ad 18), .ref (ad 6), .ref (ad 19), .ref (ad 7), .ref (ad 8), .ref (ad 9), .ref (ad 10), .ref (ad 11), .ref (ad 12), .ref (ad 13), .ref (ad 14), .ref (ad 15), .ref (ad 16), .ref (ad 17), .int 0, .int 0, .int 0, .int 0, .int 0])),
  (ad 5, .inl (cy 20, 256, .inl (fun _ => 0))),
  (ad 6, .inl (cy 20, 256, .inl (fun _ => 0))),
  (ad 7, .inl (cy 20, 16, .inl (fun _ => 0))),
  (ad 8, .inl (cy 20, 16, .inl (fun _ => 0))),
  (ad 9, .inl (cy 20, 60, .inl (fun _ => 0))),
  (ad 10, .inl (cy 20, 60, .inl (fun _ => 0))),
  (ad 11, .inl (cy 20, 60, .inl (fun _ => 0))),
  (ad 12, .inl (cy 20, 60, .inl (fun _ => 0))),
  (ad 13, .inl (cy 20, 10, .inl (fun _ => 0))),
  (ad 14, .inl (cy 20, 40, .inl (fun _ => 0))),
  (ad 15, .inl (cy 20, 40, .inl (fun _ => 0))),
  (ad 16, .inl (cy 20, 40, .inl (fun _ => 0))),
  (ad 17, .inl (cy 20, 40, .inl (fun _ => 0))),
  (ad 18, .inl (cy 20, 256, .inl xg6)),
  (ad 19, .inl (cy 20, 256, .inl xg7)),
  (ad 20, .inl (cy 24, 3, .inr (.inr (.inr (.inr (fun _ => none)))))),
  (ad 21, .inr (8, [.ref (ad 22), .ref (ad 23), .ref (ad 24), .ref (ad 36), .ref (ad 37), .ref (ad 38), .int (-1)])),
  (ad 22, .inl (cy 21, 256, .inl (fun _ => 0))),
  (ad 23, .inl (cy 20, 256, .inl (fun _ => 0))),
  (ad 24, .inr (2, [.ref (ad 25), .ref (ad 26), .ref (ad 27), .ref (ad 28), .ref (ad 29), .ref (ad 30), .ref (ad 31), .ref (ad 32), .ref (ad 33), .ref (ad 34), .ref (ad 35)])),
  (ad 25, .inl (cy 20, 256, .inl (fun _ => 0))),
  (ad 26, .inl (cy 20, 256, .inl (fun _ => 0))),
  (ad 27, .inl (cy 20, 256, .inl (fun _ => 0))),
  (ad 28, .inl (cy 20, 256, .inl (fun _ => 0))),
  (ad 29, .inl (cy 20, 256, .inl (fun _ => 0))),
  (ad 30, .inl (cy 20, 256, .inl (fun _ => 0))),
  (ad 31, .inl (cy 20, 256, .inl (fun _ => 0))),
  (ad 32, .inl (cy 20, 256, .inl (fun _ => 0))),
  (ad 33, .inl (cy 20, 256, .inl (fun _ => 0))),
  (ad 34, .inl (cy 20, 200, .inl (fun _ => 0))),
  (ad 35, .inl (cy 20, 8, .inl (fun _ => 0))),
  (ad 36, .inl (cy 20, 256, .inl (fun _ => 0))),
  (ad 37, .inl (cy 20, 8, .inl (fun _ => 0))),
  (ad 38, .inl (cy 20, 16, .inl (fun _ => 0))),
  (ad 39, .inr (4, [.ref (ad 40), .ref (ad 41), .ref (ad 42)])),
  (ad 40, .inl (cy 20, 100, .inl (fun _ => 0))),
  (ad 41, .inl (cy 22, 25600, .inl (fun _ => 0))),
  (ad 42, .inl (cy 20, 100, .inl (fun _ => 0))),
  (ad 43, .inr (1, [.ref (ad 44), .ref (ad 45)])),
  (ad 44, .inl (cy 21, 256, .inl (fun _ => 0))),
  (ad 45, .inl (cy 20, 256, .inl (fun _ => 0))),
  (ad 46, .inr (9, [.ref (ad 47), .long 1000000, .ref (ad 48), .ref (ad 49), .int 0, .int 0, .int (-1)])),
  (ad 47, .inl (cy 20, 10, .inl (fun _ => 0))),
  (ad 48, .inl (cy 20, 10, .inl (fun _ => 0))),
  (ad 49, .inl (cy 23, 70, .inr (.inl (fun _ => 0)))),
  (ad 50, .inr (5, [.long 0, .long 1])),
  (ad 51, .inl (cy 20, 3, .inl (fun _ => 0))),
  (ad 52, .inr (3, [.int 0, .int 0, .ref (ad 53), .ref (ad 54), .ref (ad 55), .ref (ad 56), .ref (ad 57), .int 0, .ref (ad 58), .ref (ad 59), .ref (ad 60), .ref (ad 61), .ref (ad 62), .int 0, .ref (ad 63)])),
  (ad 53, .inl (cy 20, 40, .inl (fun _ => 0))),
  (ad 54, .inl (cy 20, 40, .inl (fun _ => 0))),
  (ad 55, .inl (cy 20, 40, .inl (fun _ => 0))),
  (ad 56, .inl (cy 20, 40, .inl (fun _ => 0))),
  (ad 57, .inl (cy 20, 700, .inl (fun _ => 0))),
  (ad 58, .inl (cy 20, 100, .inl (fun _ => 0))),
  (ad 59, .inl (cy 20, 100, .inl (fun _ => 0))),
  (ad 60, .inl (cy 21, 100, .inl (fun _ => 0))),
  (ad 61, .inl (cy 21, 100, .inl (fun _ => 0))),
  (ad 62, .inl (cy 20, 100, .inl (fun _ => 0))),
  (ad 63, .inl (cy 20, 3, .inl (fun _ => 0))),
  (ad 64, .inr (3, [.int 0, .int 0, .ref (ad 65), .ref (ad 66), .ref (ad 67), .ref (ad 68), .ref (ad 69), .int 0, .ref (ad 70), .ref (ad 71), .ref (ad 72), .ref (ad 73), .ref (ad 74), .int 0, .ref (ad 75)])),
  (ad 65, .inl (cy 20, 40, .inl (fun _ => 0))),
  (ad 66, .inl (cy 20, 40, .inl (fun _ => 0))),
  (ad 67, .inl (cy 20, 40, .inl (fun _ => 0))),
  (ad 68, .inl (cy 20, 40, .inl (fun _ => 0))),
  (ad 69, .inl (cy 20, 700, .inl (fun _ => 0))),
  (ad 70, .inl (cy 20, 100, .inl (fun _ => 0))),
  (ad 71, .inl (cy 20, 100, .inl (fun _ => 0))),
  (ad 72, .inl (cy 21, 100, .inl (fun _ => 0))),
  (ad 73, .inl (cy 21, 100, .inl (fun _ => 0))),
  (ad 74, .inl (cy 20, 100, .inl (fun _ => 0))),
  (ad 75, .inl (cy 20, 3, .inl (fun _ => 0))),
  (ad 76, .inr (11, [.ref (ad 77), .ref (ad 78), .ref (ad 79), .ref (ad 80), .ref (ad 81), .ref (ad 82), .ref (ad 83), .ref (ad 84), .ref (ad 85), .ref (ad 86), .ref (ad 87), .ref (ad 88), .ref (ad 89), .ref (ad 90), .ref (ad 91), .ref (ad 92), .ref (ad 93), .ref (ad 94), .ref (ad 95), .ref (ad 96), .int 0, .ref (ad 97), .ref (ad 98), .ref (ad 99), .ref (ad 100), .ref (ad 101), .ref (ad 102), .ref (ad 103), .int 0, .ref (ad 104), .ref (ad 105), .ref (ad 106), .ref (ad 107), .ref (ad 108), .int 0, .int (-1), .int 0, .int 0, .int 0, .int 0, .int 0, .long 0, .int 0, .ref (ad 109), .ref (ad 110), .int 0, .ref (ad 111), .ref (ad 112), .int 0, .int 0, .ref (ad 113), .ref (ad 114), .ref (ad 115), .ref (ad 116), .ref (ad 117), .ref (ad 118), .ref (ad 119), .ref (ad 120), .ref (ad 121), .long 0, .long 0, .int 0, .int 0, .long 0, .long 0, .ref (ad 122), .ref (ad 123), .ref (ad 124), .ref (ad 125), .ref (ad 126), .long 0, .ref (ad 127), .ref (ad 128)])),
  (ad 77, .inl (cy 20, 3, .inl (fun _ => 0))),
  (ad 78, .inl (cy 20, 4, .inl (fun _ => 0))),
  (ad 79, .inl (cy 20, 4, .inl (fun _ => 0))),
  (ad 80, .inl (cy 20, 4, .inl (fun _ => 0))),
  (ad 81, .inl (cy 20, 4, .inl (fun _ => 0))),
  (ad 82, .inl (cy 20, 1024, .inl (fun _ => 0))),
  (ad 83, .inl (cy 20, 1024, .inl mgH)),
  (ad 84, .inl (cy 20, 1024, .inl (fun _ => 0))),
  (ad 85, .inl (cy 20, 1024, .inl mgM)),
  (ad 86, .inl (cy 20, 320, .inl (fun _ => 0))),
  (ad 87, .inl (cy 20, 240, .inl (fun _ => 0))),
  (ad 88, .inl (cy 20, 240, .inl (fun _ => 0))),
  (ad 89, .inl (cy 20, 240, .inl (fun _ => 0))),
  (ad 90, .inl (cy 20, 240, .inl (fun _ => 0))),
  (ad 91, .inl (cy 20, 40, .inl (fun _ => 0))),
  (ad 92, .inl (cy 20, 160, .inl (fun _ => 0))),
  (ad 93, .inl (cy 20, 160, .inl (fun _ => 0))),
  (ad 94, .inl (cy 20, 160, .inl (fun _ => 0))),
  (ad 95, .inl (cy 21, 320, .inl (fun _ => 0))),
  (ad 96, .inl (cy 21, 160, .inl (fun _ => 0))),
  (ad 97, .inl (cy 20, 2, .inl (fun _ => 0))),
  (ad 98, .inl (cy 20, 80, .inl (fun _ => 0))),
  (ad 99, .inl (cy 20, 80, .inl (fun _ => 0))),
  (ad 100, .inl (cy 20, 80, .inl (fun _ => 0))),
  (ad 101, .inl (cy 20, 80, .inl (fun _ => 0))),
  (ad 102, .inl (cy 20, 80, .inl (fun _ => 0))),
  (ad 103, .inl (cy 20, 80, .inl (fun _ => 0))),
  (ad 104, .inl (cy 20, 2000, .inl (fun _ => 0))),
  (ad 105, .inl (cy 20, 2000, .inl (fun _ => 0))),
  (ad 106, .inl (cy 20, 2000, .inl (fun _ => 0))),
  (ad 107, .inl (cy 20, 2000, .inl (fun _ => 0))),
  (ad 108, .inl (cy 22, 700, .inl (fun _ => 0))),
  (ad 109, .inl (cy 20, 12, .inl (fun _ => 0))),
  (ad 110, .inl (cy 20, 12, .inl (fun _ => 0))),
  (ad 111, .inl (cy 20, 7, .inl (fun _ => 0))),
  (ad 112, .inl (cy 21, 300, .inl (fun _ => 0))),
  (ad 113, .inl (cy 20, 256, .inl (fun _ => 0))),
  (ad 114, .inl (cy 20, 256, .inl (fun _ => 0))),
  (ad 115, .inl (cy 20, 256, .inl (fun _ => 0))),
  (ad 116, .inl (cy 20, 256, .inl (fun _ => 0))),
  (ad 117, .inl (cy 20, 256, .inl (fun _ => 0))),
  (ad 118, .inl (cy 21, 256, .inl (fun _ => 0))),
  (ad 119, .inl (cy 21, 256, .inl (fun _ => 0))),
  (ad 120, .inl (cy 20, 256, .inl (fun _ => 0))),
  (ad 121, .inl (cy 20, 256, .inl (fun _ => 0))),
  (ad 122, .inl (cy 21, 256, .inl (fun _ => 0))),
  (ad 123, .inl (cy 20, 10, .inl (fun _ => 0))),
  (ad 124, .inl (cy 20, 10, .inl (fun _ => 0))),
  (ad 125, .inl (cy 20, 10, .inl (fun _ => 0))),
  (ad 126, .inl (cy 20, 256, .inl (fun _ => 0))),
  (ad 127, .inl (cy 20, 16, .inl (fun _ => 0))),
  (ad 128, .inl (cy 20, 16, .inl (fun _ => 0)))]
section zSt
variable {ad : Nat → Nat} {D : va_G} {cy : Nat → ClassId} {H : Heap} {xg6 xg7 mgH mgM : Nat → Int32}
set_option maxRecDepth 20000 in
theorem zc_1 (h : va_at D zcl (ad 1, .inr (10, [.ref (ad 2), .ref (ad 4), .ref (ad 20), .ref (ad 21), .ref (ad 24), .ref (ad 39), .ref (ad 43), .ref (ad 46), .ref (ad 50), .ref (ad 51), .ref (ad 52), .ref (ad 64), .int (-1), .int 0, .int 1])) H) : zok (zKn 0, ad, D, cy) (zM0 xg6 xg7 mgH mgM) H 1 := zokO (c := 10) rfl (by decide) rfl (zclN _) h (lt_s (lt_s (lt_s (lt_s (lt_s (lt_s (lt_s (lt_s (lt_s (lt_s (lt_s (lt_s (lt_s (lt_s (lt_s (lt_0) (by first | rfl | decide)) (by first | rfl | decide)) (by first | rfl | decide)) (by first | rfl | decide)) (by first | rfl | decide)) (by first | rfl | decide)) (by first | rfl | decide)) (by first | rfl | decide)) (by first | rfl | decide)) (by first | rfl | decide)) (by first | rfl | decide)) (by first | rfl | decide)) (by first | rfl | decide)) (by first | rfl | decide)) (by first | rfl | decide))
set_option maxRecDepth 20000 in
theorem zc_2 (h : va_at D zcl (ad 2, .inr (6, [.ref (ad 3), .int 0, .int 0, .int 0, .int 0, .int 0, .int 0, .int 0])) H) : zok (zKn 0, ad, D, cy) (zM0 xg6 xg7 mgH mgM) H 2 := zokO (c := 6) rfl (by decide) rfl (zclN _) h (lt_s (lt_s (lt_s (lt_s (lt_s (lt_s (lt_s (lt_s (lt_0) (by first | rfl | decide)) (by first | rfl | decide)) (by first | rfl | decide)) (by first | rfl | decide)) (by first | rfl | decide)) (by first | rfl | decide)) (by first | rfl | decide)) (by first | rfl | decide))
theorem zc_3 (h : va_at D zcl (ad 3, .inl (cy 20, 700, .inl (fun _ => 0))) H) : zok (zKn 0, ad, D, cy) (zM0 xg6 xg7 mgH mgM) H 3 := zokI (t := 20) rfl (by decide) rfl rfl h (fun _ => rfl)
set_option maxRecDepth 20000 in
theorem zc_4 (h : va_at D zcl (ad 4, .inr (7, [.ref (ad 5), .ref (ad 18), .ref (ad 6), .ref (ad 19), .ref (ad 7), .ref (ad 8), .ref (ad 9), .ref (ad 10), .ref (ad 11), .ref (ad 12), .ref (ad 13), .ref (ad 14), .ref (ad 15), .ref (ad 16), .ref (ad 17), .int 0, .int 0, .int 0, .int 0, .int 0])) H) : zok (zKn 0, ad, D, cy) (zM0 xg6 xg7 mgH mgM) H 4 := zokO (c := 7) rfl (by decide) rfl (zclN _) h (lt_s (lt_s (lt_s (lt_s (lt_s (lt_s (lt_s (lt_s (lt_s (lt_s (lt_s (lt_s (lt_s (lt_s (lt_s (lt_s (lt_s (lt_s (lt_s (lt_s (lt_0) (by first | rfl | decide)) (by first | rfl | decide)) (by first | rfl | decide)) (by first | rfl | decide)) (by first | rfl | decide)) (by first | rfl | decide)) (by first | rfl | decide)) (by first | rfl | decide)) (by first | rfl | decide)) (by first | rfl | decide)) (by first | rfl | decide)) (by first | rfl | decide)) (by first | rfl | decide)) (by first | rfl | decide)) (by first | rfl | decide)) (by first | rfl | decide)) (by first | rfl | decide)) (by first | rfl | decide)) (by first | rfl | decide)) (by first | rfl | decide))
theorem zc_5 (h : va_at D zcl (ad 5, .inl (cy 20, 256, .inl (fun _ => 0))) H) : zok (zKn 0, ad, D, cy) (zM0 xg6 xg7 mgH mgM) H 5 := zokI (t := 20) rfl (by decide) rfl rfl h (fun _ => rfl)
theorem zc_6 (h : va_at D zcl (ad 6, .inl (cy 20, 256, .inl (fun _ => 0))) H) : zok (zKn 0, ad, D, cy) (zM0 xg6 xg7 mgH mgM) H 6 := zokI (t := 20) rfl (by decide) rfl rfl h (fun _ => rfl)
theorem zc_7 (h : va_at D zcl (ad 7, .inl (cy 20, 16, .inl (fun _ => 0))) H) : zok (zKn 0, ad, D, cy) (zM0 xg6 xg7 mgH mgM) H 7 := zokI (t := 20) rfl (by decide) rfl rfl h (fun _ => rfl)
theorem zc_8 (h : va_at D zcl (ad 8, .inl (cy 20, 16, .inl (fun _ => 0))) H) : zok (zKn 0, ad, D, cy) (zM0 xg6 xg7 mgH mgM) H 8 := zokI (t := 20) rfl (by decide) rfl rfl h (fun _ => rfl)
theorem zc_9 (h : va_at D zcl (ad 9, .inl (cy 20, 60, .inl (fun _ => 0))) H) : zok (zKn 0, ad, D, cy) (zM0 xg6 xg7 mgH mgM) H 9 := zokI (t := 20) rfl (by decide) rfl rfl h (fun _ => rfl)
theorem zc_10 (h : va_at D zcl (ad 10, .inl (cy 20, 60, .inl (fun _ => 0))) H) : zok (zKn 0, ad, D, cy) (zM0 xg6 xg7 mgH mgM) H 10 := zokI (t := 20) rfl (by decide) rfl rfl h (fun _ => rfl)
theorem zc_11 (h : va_at D zcl (ad 11, .inl (cy 20, 60, .inl (fun _ => 0))) H) : zok (zKn 0, ad, D, cy) (zM0 xg6 xg7 mgH mgM) H 11 := zokI (t := 20) rfl (by decide) rfl rfl h (fun _ => rfl)
theorem zc_12 (h : va_at D zcl (ad 12, .inl (cy 20, 60, .inl (fun _ => 0))) H) : zok (zKn 0, ad, D, cy) (zM0 xg6 xg7 mgH mgM) H 12 := zokI (t := 20) rfl (by decide) rfl rfl h (fun _ => rfl)
theorem zc_13 (h : va_at D zcl (ad 13, .inl (cy 20, 10, .inl (fun _ => 0))) H) : zok (zKn 0, ad, D, cy) (zM0 xg6 xg7 mgH mgM) H 13 := zokI (t := 20) rfl (by decide) rfl rfl h (fun _ => rfl)
theorem zc_14 (h : va_at D zcl (ad 14, .inl (cy 20, 40, .inl (fun _ => 0))) H) : zok (zKn 0, ad, D, cy) (zM0 xg6 xg7 mgH mgM) H 14 := zokI (t := 20) rfl (by decide) rfl rfl h (fun _ => rfl)
theorem zc_15 (h : va_at D zcl (ad 15, .inl (cy 20, 40, .inl (fun _ => 0))) H) : zok (zKn 0, ad, D, cy) (zM0 xg6 xg7 mgH mgM) H 15 := zokI (t := 20) rfl (by decide) rfl rfl h (fun _ => rfl)
theorem zc_16 (h : va_at D zcl (ad 16, .inl (cy 20, 40, .inl (fun _ => 0))) H) : zok (zKn 0, ad, D, cy) (zM0 xg6 xg7 mgH mgM) H 16 := zokI (t := 20) rfl (by decide) rfl rfl h (fun _ => rfl)
theorem zc_17 (h : va_at D zcl (ad 17, .inl (cy 20, 40, .inl (fun _ => 0))) H) : zok (zKn 0, ad, D, cy) (zM0 xg6 xg7 mgH mgM) H 17 := zokI (t := 20) rfl (by decide) rfl rfl h (fun _ => rfl)
theorem zc_18 (h : va_at D zcl (ad 18, .inl (cy 20, 256, .inl xg6)) H) : zok (zKn 0, ad, D, cy) (zM0 xg6 xg7 mgH mgM) H 18 := zokI (t := 20) rfl (by decide) rfl rfl h (fun _ => rfl)
theorem zc_19 (h : va_at D zcl (ad 19, .inl (cy 20, 256, .inl xg7)) H) : zok (zKn 0, ad, D, cy) (zM0 xg6 xg7 mgH mgM) H 19 := zokI (t := 20) rfl (by decide) rfl rfl h (fun _ => rfl)
theorem zc_20 (h : va_at D zcl (ad 20, .inl (cy 24, 3, .inr (.inr (.inr (.inr (fun _ => none)))))) H) : zok (zKn 0, ad, D, cy) (zM0 xg6 xg7 mgH mgM) H 20 := zokQ rfl rfl rfl h (fun _ => rfl)
set_option maxRecDepth 20000 in
theorem zc_21 (h : va_at D zcl (ad 21, .inr (8, [.ref (ad 22), .ref (ad 23), .ref (ad 24), .ref (ad 36), .ref (ad 37), .ref (ad 38), .int (-1)])) H) : zok (zKn 0, ad, D, cy) (zM0 xg6 xg7 mgH mgM) H 21 := zokO (c := 8) rfl (by decide) rfl (zclN _) h (lt_s (lt_s (lt_s (lt_s (lt_s (lt_s (lt_s (lt_0) (by first | rfl | decide)) (by first | rfl | decide)) (by first | rfl | decide)) (by first | rfl | decide)) (by first | rfl | decide)) (by first | rfl | decide)) (by first | rfl | decide))
theorem zc_22 (h : va_at D zcl (ad 22, .inl (cy 21, 256, .inl (fun _ => 0))) H) : zok (zKn 0, ad, D, cy) (zM0 xg6 xg7 mgH mgM) H 22 := zokI (t := 21) rfl (by decide) rfl rfl h (fun _ => rfl)
theorem zc_23 (h : va_at D zcl (ad 23, .inl (cy 20, 256, .inl (fun _ => 0))) H) : zok (zKn 0, ad, D, cy) (zM0 xg6 xg7 mgH mgM) H 23 := zokI (t := 20) rfl (by decide) rfl rfl h (fun _ => rfl)
set_option maxRecDepth 20000 in
theorem zc_24 (h : va_at D zcl (ad 24, .inr (2, [.ref (ad 25), .ref (ad 26), .ref (ad 27), .ref (ad 28), .ref (ad 29), .ref (ad 30), .ref (ad 31), .ref (ad 32), .ref (ad 33), .ref (ad 34), .ref (ad 35)])) H) : zok (zKn 0, ad, D, cy) (zM0 xg6 xg7 mgH mgM) H 24 := zokO (c := 2) rfl (by decide) rfl (zclN _) h (lt_s (lt_s (lt_s (lt_s (lt_s (lt_s (lt_s (lt_s (lt_s (lt_s (lt_s (lt_0) (by first | rfl | decide)) (by first | rfl | decide)) (by first | rfl | decide)) (by first | rfl | decide)) (by first | rfl | decide)) (by first | rfl | decide)) (by first | rfl | decide)) (by first | rfl | decide)) (by first | rfl | decide)) (by first | rfl | decide)) (by first | rfl | decide))
theorem zc_25 (h : va_at D zcl (ad 25, .inl (cy 20, 256, .inl (fun _ => 0))) H) : zok (zKn 0, ad, D, cy) (zM0 xg6 xg7 mgH mgM) H 25 := zokI (t := 20) rfl (by decide) rfl rfl h (fun _ => rfl)
theorem zc_26 (h : va_at D zcl (ad 26, .inl (cy 20, 256, .inl (fun _ => 0))) H) : zok (zKn 0, ad, D, cy) (zM0 xg6 xg7 mgH mgM) H 26 := zokI (t := 20) rfl (by decide) rfl rfl h (fun _ => rfl)
theorem zc_27 (h : va_at D zcl (ad 27, .inl (cy 20, 256, .inl (fun _ => 0))) H) : zok (zKn 0, ad, D, cy) (zM0 xg6 xg7 mgH mgM) H 27 := zokI (t := 20) rfl (by decide) rfl rfl h (fun _ => rfl)
theorem zc_28 (h : va_at D zcl (ad 28, .inl (cy 20, 256, .inl (fun _ => 0))) H) : zok (zKn 0, ad, D, cy) (zM0 xg6 xg7 mgH mgM) H 28 := zokI (t := 20) rfl (by decide) rfl rfl h (fun _ => rfl)
theorem zc_29 (h : va_at D zcl (ad 29, .inl (cy 20, 256, .inl (fun _ => 0))) H) : zok (zKn 0, ad, D, cy) (zM0 xg6 xg7 mgH mgM) H 29 := zokI (t := 20) rfl (by decide) rfl rfl h (fun _ => rfl)
theorem zc_30 (h : va_at D zcl (ad 30, .inl (cy 20, 256, .inl (fun _ => 0))) H) : zok (zKn 0, ad, D, cy) (zM0 xg6 xg7 mgH mgM) H 30 := zokI (t := 20) rfl (by decide) rfl rfl h (fun _ => rfl)
theorem zc_31 (h : va_at D zcl (ad 31, .inl (cy 20, 256, .inl (fun _ => 0))) H) : zok (zKn 0, ad, D, cy) (zM0 xg6 xg7 mgH mgM) H 31 := zokI (t := 20) rfl (by decide) rfl rfl h (fun _ => rfl)
theorem zc_32 (h : va_at D zcl (ad 32, .inl (cy 20, 256, .inl (fun _ => 0))) H) : zok (zKn 0, ad, D, cy) (zM0 xg6 xg7 mgH mgM) H 32 := zokI (t := 20) rfl (by decide) rfl rfl h (fun _ => rfl)
theorem zc_33 (h : va_at D zcl (ad 33, .inl (cy 20, 256, .inl (fun _ => 0))) H) : zok (zKn 0, ad, D, cy) (zM0 xg6 xg7 mgH mgM) H 33 := zokI (t := 20) rfl (by decide) rfl rfl h (fun _ => rfl)
theorem zc_34 (h : va_at D zcl (ad 34, .inl (cy 20, 200, .inl (fun _ => 0))) H) : zok (zKn 0, ad, D, cy) (zM0 xg6 xg7 mgH mgM) H 34 := zokI (t := 20) rfl (by decide) rfl rfl h (fun _ => rfl)
theorem zc_35 (h : va_at D zcl (ad 35, .inl (cy 20, 8, .inl (fun _ => 0))) H) : zok (zKn 0, ad, D, cy) (zM0 xg6 xg7 mgH mgM) H 35 := zokI (t := 20) rfl (by decide) rfl rfl h (fun _ => rfl)
theorem zc_36 (h : va_at D zcl (ad 36, .inl (cy 20, 256, .inl (fun _ => 0))) H) : zok (zKn 0, ad, D, cy) (zM0 xg6 xg7 mgH mgM) H 36 := zokI (t := 20) rfl (by decide) rfl rfl h (fun _ => rfl)
theorem zc_37 (h : va_at D zcl (ad 37, .inl (cy 20, 8, .inl (fun _ => 0))) H) : zok (zKn 0, ad, D, cy) (zM0 xg6 xg7 mgH mgM) H 37 := zokI (t := 20) rfl (by decide) rfl rfl h (fun _ => rfl)
theorem zc_38 (h : va_at D zcl (ad 38, .inl (cy 20, 16, .inl (fun _ => 0))) H) : zok (zKn 0, ad, D, cy) (zM0 xg6 xg7 mgH mgM) H 38 := zokI (t := 20) rfl (by decide) rfl rfl h (fun _ => rfl)
set_option maxRecDepth 20000 in
theorem zc_39 (h : va_at D zcl (ad 39, .inr (4, [.ref (ad 40), .ref (ad 41), .ref (ad 42)])) H) : zok (zKn 0, ad, D, cy) (zM0 xg6 xg7 mgH mgM) H 39 := zokO (c := 4) rfl (by decide) rfl (zclN _) h (lt_s (lt_s (lt_s (lt_0) (by first | rfl | decide)) (by first | rfl | decide)) (by first | rfl | decide))
theorem zc_40 (h : va_at D zcl (ad 40, .inl (cy 20, 100, .inl (fun _ => 0))) H) : zok (zKn 0, ad, D, cy) (zM0 xg6 xg7 mgH mgM) H 40 := zokI (t := 20) rfl (by decide) rfl rfl h (fun _ => rfl)
theorem zc_41 (h : va_at D zcl (ad 41, .inl (cy 22, 25600, .inl (fun _ => 0))) H) : zok (zKn 0, ad, D, cy) (zM0 xg6 xg7 mgH mgM) H 41 := zokI (t := 22) rfl (by decide) rfl rfl h (fun _ => rfl)
theorem zc_42 (h : va_at D zcl (ad 42, .inl (cy 20, 100, .inl (fun _ => 0))) H) : zok (zKn 0, ad, D, cy) (zM0 xg6 xg7 mgH mgM) H 42 := zokI (t := 20) rfl (by decide) rfl rfl h (fun _ => rfl)
set_option maxRecDepth 20000 in
theorem zc_43 (h : va_at D zcl (ad 43, .inr (1, [.ref (ad 44), .ref (ad 45)])) H) : zok (zKn 0, ad, D, cy) (zM0 xg6 xg7 mgH mgM) H 43 := zokO (c := 1) rfl (by decide) rfl (zclN _) h (lt_s (lt_s (lt_0) (by first | rfl | decide)) (by first | rfl | decide))
theorem zc_44 (h : va_at D zcl (ad 44, .inl (cy 21, 256, .inl (fun _ => 0))) H) : zok (zKn 0, ad, D, cy) (zM0 xg6 xg7 mgH mgM) H 44 := zokI (t := 21) rfl (by decide) rfl rfl h (fun _ => rfl)
theorem zc_45 (h : va_at D zcl (ad 45, .inl (cy 20, 256, .inl (fun _ => 0))) H) : zok (zKn 0, ad, D, cy) (zM0 xg6 xg7 mgH mgM) H 45 := zokI (t := 20) rfl (by decide) rfl rfl h (fun _ => rfl)
set_option maxRecDepth 20000 in
theorem zc_46 (h : va_at D zcl (ad 46, .inr (9, [.ref (ad 47), .long 1000000, .ref (ad 48), .ref (ad 49), .int 0, .int 0, .int (-1)])) H) : zok (zKn 0, ad, D, cy) (zM0 xg6 xg7 mgH mgM) H 46 := zokO (c := 9) rfl (by decide) rfl (zclN _) h (lt_s (lt_s (lt_s (lt_s (lt_s (lt_s (lt_s (lt_0) (by first | rfl | decide)) (by first | rfl | decide)) (by first | rfl | decide)) (by first | rfl | decide)) (by first | rfl | decide)) (by first | rfl | decide)) (by first | rfl | decide))
theorem zc_47 (h : va_at D zcl (ad 47, .inl (cy 20, 10, .inl (fun _ => 0))) H) : zok (zKn 0, ad, D, cy) (zM0 xg6 xg7 mgH mgM) H 47 := zokI (t := 20) rfl (by decide) rfl rfl h (fun _ => rfl)
theorem zc_48 (h : va_at D zcl (ad 48, .inl (cy 20, 10, .inl (fun _ => 0))) H) : zok (zKn 0, ad, D, cy) (zM0 xg6 xg7 mgH mgM) H 48 := zokI (t := 20) rfl (by decide) rfl rfl h (fun _ => rfl)
theorem zc_49 (h : va_at D zcl (ad 49, .inl (cy 23, 70, .inr (.inl (fun _ => 0)))) H) : zok (zKn 0, ad, D, cy) (zM0 xg6 xg7 mgH mgM) H 49 := zokJ rfl rfl rfl h (fun _ => rfl)
set_option maxRecDepth 20000 in
theorem zc_50 (h : va_at D zcl (ad 50, .inr (5, [.long 0, .long 1])) H) : zok (zKn 0, ad, D, cy) (zM0 xg6 xg7 mgH mgM) H 50 := zokO (c := 5) rfl (by decide) rfl (zclN _) h (lt_s (lt_s (lt_0) (by first | rfl | decide)) (by first | rfl | decide))
theorem zc_51 (h : va_at D zcl (ad 51, .inl (cy 20, 3, .inl (fun _ => 0))) H) : zok (zKn 0, ad, D, cy) (zM0 xg6 xg7 mgH mgM) H 51 := zokI (t := 20) rfl (by decide) rfl rfl h (fun _ => rfl)
set_option maxRecDepth 20000 in
theorem zc_52 (h : va_at D zcl (ad 52, .inr (3, [.int 0, .int 0, .ref (ad 53), .ref (ad 54), .ref (ad 55), .ref (ad 56), .ref (ad 57), .int 0, .ref (ad 58), .ref (ad 59), .ref (ad 60), .ref (ad 61), .ref (ad 62), .int 0, .ref (ad 63)])) H) : zok (zKn 0, ad, D, cy) (zM0 xg6 xg7 mgH mgM) H 52 := zokO (c := 3) rfl (by decide) rfl (zclN _) h (lt_s (lt_s (lt_s (lt_s (lt_s (lt_s (lt_s (lt_s (lt_s (lt_s (lt_s (lt_s (lt_s (lt_s (lt_s (lt_0) (by first | rfl | decide)) (by first | rfl | decide)) (by first | rfl | decide)) (by first | rfl | decide)) (by first | rfl | decide)) (by first | rfl | decide)) (by first | rfl | decide)) (by first | rfl | decide)) (by first | rfl | decide)) (by first | rfl | decide)) (by first | rfl | decide)) (by first | rfl | decide)) (by first | rfl | decide)) (by first | rfl | decide)) (by first | rfl | decide))
theorem zc_53 (h : va_at D zcl (ad 53, .inl (cy 20, 40, .inl (fun _ => 0))) H) : zok (zKn 0, ad, D, cy) (zM0 xg6 xg7 mgH mgM) H 53 := zokI (t := 20) rfl (by decide) rfl rfl h (fun _ => rfl)
theorem zc_54 (h : va_at D zcl (ad 54, .inl (cy 20, 40, .inl (fun _ => 0))) H) : zok (zKn 0, ad, D, cy) (zM0 xg6 xg7 mgH mgM) H 54 := zokI (t := 20) rfl (by decide) rfl rfl h (fun _ => rfl)
theorem zc_55 (h : va_at D zcl (ad 55, .inl (cy 20, 40, .inl (fun _ => 0))) H) : zok (zKn 0, ad, D, cy) (zM0 xg6 xg7 mgH mgM) H 55 := zokI (t := 20) rfl (by decide) rfl rfl h (fun _ => rfl)
theorem zc_56 (h : va_at D zcl (ad 56, .inl (cy 20, 40, .inl (fun _ => 0))) H) : zok (zKn 0, ad, D, cy) (zM0 xg6 xg7 mgH mgM) H 56 := zokI (t := 20) rfl (by decide) rfl rfl h (fun _ => rfl)
theorem zc_57 (h : va_at D zcl (ad 57, .inl (cy 20, 700, .inl (fun _ => 0))) H) : zok (zKn 0, ad, D, cy) (zM0 xg6 xg7 mgH mgM) H 57 := zokI (t := 20) rfl (by decide) rfl rfl h (fun _ => rfl)
theorem zc_58 (h : va_at D zcl (ad 58, .inl (cy 20, 100, .inl (fun _ => 0))) H) : zok (zKn 0, ad, D, cy) (zM0 xg6 xg7 mgH mgM) H 58 := zokI (t := 20) rfl (by decide) rfl rfl h (fun _ => rfl)
theorem zc_59 (h : va_at D zcl (ad 59, .inl (cy 20, 100, .inl (fun _ => 0))) H) : zok (zKn 0, ad, D, cy) (zM0 xg6 xg7 mgH mgM) H 59 := zokI (t := 20) rfl (by decide) rfl rfl h (fun _ => rfl)
theorem zc_60 (h : va_at D zcl (ad 60, .inl (cy 21, 100, .inl (fun _ => 0))) H) : zok (zKn 0, ad, D, cy) (zM0 xg6 xg7 mgH mgM) H 60 := zokI (t := 21) rfl (by decide) rfl rfl h (fun _ => rfl)
theorem zc_61 (h : va_at D zcl (ad 61, .inl (cy 21, 100, .inl (fun _ => 0))) H) : zok (zKn 0, ad, D, cy) (zM0 xg6 xg7 mgH mgM) H 61 := zokI (t := 21) rfl (by decide) rfl rfl h (fun _ => rfl)
theorem zc_62 (h : va_at D zcl (ad 62, .inl (cy 20, 100, .inl (fun _ => 0))) H) : zok (zKn 0, ad, D, cy) (zM0 xg6 xg7 mgH mgM) H 62 := zokI (t := 20) rfl (by decide) rfl rfl h (fun _ => rfl)
theorem zc_63 (h : va_at D zcl (ad 63, .inl (cy 20, 3, .inl (fun _ => 0))) H) : zok (zKn 0, ad, D, cy) (zM0 xg6 xg7 mgH mgM) H 63 := zokI (t := 20) rfl (by decide) rfl rfl h (fun _ => rfl)
set_option maxRecDepth 20000 in
theorem zc_64 (h : va_at D zcl (ad 64, .inr (3, [.int 0, .int 0, .ref (ad 65), .ref (ad 66), .ref (ad 67), .ref (ad 68), .ref (ad 69), .int 0, .ref (ad 70), .ref (ad 71), .ref (ad 72), .ref (ad 73), .ref (ad 74), .int 0, .ref (ad 75)])) H) : zok (zKn 0, ad, D, cy) (zM0 xg6 xg7 mgH mgM) H 64 := zokO (c := 3) rfl (by decide) rfl (zclN _) h (lt_s (lt_s (lt_s (lt_s (lt_s (lt_s (lt_s (lt_s (lt_s (lt_s (lt_s (lt_s (lt_s (lt_s (lt_s (lt_0) (by first | rfl | decide)) (by first | rfl | decide)) (by first | rfl | decide)) (by first | rfl | decide)) (by first | rfl | decide)) (by first | rfl | decide)) (by first | rfl | decide)) (by first | rfl | decide)) (by first | rfl | decide)) (by first | rfl | decide)) (by first | rfl | decide)) (by first | rfl | decide)) (by first | rfl | decide)) (by first | rfl | decide)) (by first | rfl | decide))
theorem zc_65 (h : va_at D zcl (ad 65, .inl (cy 20, 40, .inl (fun _ => 0))) H) : zok (zKn 0, ad, D, cy) (zM0 xg6 xg7 mgH mgM) H 65 := zokI (t := 20) rfl (by decide) rfl rfl h (fun _ => rfl)
theorem zc_66 (h : va_at D zcl (ad 66, .inl (cy 20, 40, .inl (fun _ => 0))) H) : zok (zKn 0, ad, D, cy) (zM0 xg6 xg7 mgH mgM) H 66 := zokI (t := 20) rfl (by decide) rfl rfl h (fun _ => rfl)
theorem zc_67 (h : va_at D zcl (ad 67, .inl (cy 20, 40, .inl (fun _ => 0))) H) : zok (zKn 0, ad, D, cy) (zM0 xg6 xg7 mgH mgM) H 67 := zokI (t := 20) rfl (by decide) rfl rfl h (fun _ => rfl)
theorem zc_68 (h : va_at D zcl (ad 68, .inl (cy 20, 40, .inl (fun _ => 0))) H) : zok (zKn 0, ad, D, cy) (zM0 xg6 xg7 mgH mgM) H 68 := zokI (t := 20) rfl (by decide) rfl rfl h (fun _ => rfl)
theorem zc_69 (h : va_at D zcl (ad 69, .inl (cy 20, 700, .inl (fun _ => 0))) H) : zok (zKn 0, ad, D, cy) (zM0 xg6 xg7 mgH mgM) H 69 := zokI (t := 20) rfl (by decide) rfl rfl h (fun _ => rfl)
theorem zc_70 (h : va_at D zcl (ad 70, .inl (cy 20, 100, .inl (fun _ => 0))) H) : zok (zKn 0, ad, D, cy) (zM0 xg6 xg7 mgH mgM) H 70 := zokI (t := 20) rfl (by decide) rfl rfl h (fun _ => rfl)
theorem zc_71 (h : va_at D zcl (ad 71, .inl (cy 20, 100, .inl (fun _ => 0))) H) : zok (zKn 0, ad, D, cy) (zM0 xg6 xg7 mgH mgM) H 71 := zokI (t := 20) rfl (by decide) rfl rfl h (fun _ => rfl)
theorem zc_72 (h : va_at D zcl (ad 72, .inl (cy 21, 100, .inl (fun _ => 0))) H) : zok (zKn 0, ad, D, cy) (zM0 xg6 xg7 mgH mgM) H 72 := zokI (t := 21) rfl (by decide) rfl rfl h (fun _ => rfl)
theorem zc_73 (h : va_at D zcl (ad 73, .inl (cy 21, 100, .inl (fun _ => 0))) H) : zok (zKn 0, ad, D, cy) (zM0 xg6 xg7 mgH mgM) H 73 := zokI (t := 21) rfl (by decide) rfl rfl h (fun _ => rfl)
theorem zc_74 (h : va_at D zcl (ad 74, .inl (cy 20, 100, .inl (fun _ => 0))) H) : zok (zKn 0, ad, D, cy) (zM0 xg6 xg7 mgH mgM) H 74 := zokI (t := 20) rfl (by decide) rfl rfl h (fun _ => rfl)
theorem zc_75 (h : va_at D zcl (ad 75, .inl (cy 20, 3, .inl (fun _ => 0))) H) : zok (zKn 0, ad, D, cy) (zM0 xg6 xg7 mgH mgM) H 75 := zokI (t := 20) rfl (by decide) rfl rfl h (fun _ => rfl)
set_option maxRecDepth 20000 in
theorem zc_76 (h : va_at D zcl (ad 76, .inr (11, [.ref (ad 77), .ref (ad 78), .ref (ad 79), .ref (ad 80), .ref (ad 81), .ref (ad 82), .ref (ad 83), .ref (ad 84), .ref (ad 85), .ref (ad 86), .ref (ad 87), .ref (ad 88), .ref (ad 89), .ref (ad 90), .ref (ad 91), .ref (ad 92), .ref (ad 93), .ref (ad 94), .ref (ad 95), .ref (ad 96), .int 0, .ref (ad 97), .ref (ad 98), .ref (ad 99), .ref (ad 100), .ref (ad 101), .ref (ad 102), .ref (ad 103), .int 0, .ref (ad 104), .ref (ad 105), .ref (ad 106), .ref (ad 107), .ref (ad 108), .int 0, .int (-1), .int 0, .int 0, .int 0, .int 0, .int 0, .long 0, .int 0, .ref (ad 109), .ref (ad 110), .int 0, .ref (ad 111), .ref (ad 112), .int 0, .int 0, .ref (ad 113), .ref (ad 114), .ref (ad 115), .ref (ad 116), .ref (ad 117), .ref (ad 118), .ref (ad 119), .ref (ad 120), .ref (ad 121), .long 0, .long 0, .int 0, .int 0, .long 0, .long 0, .ref (ad 122), .ref (ad 123), .ref (ad 124), .ref (ad 125), .ref (ad 126), .long 0, .ref (ad 127), .ref (ad 128)])) H) : zok (zKn 0, ad, D, cy) (zM0 xg6 xg7 mgH mgM) H 76 := zokO (c := 11) rfl (by decide) rfl (zclN _) h (lt_s (lt_s (lt_s (lt_s (lt_s (lt_s (lt_s (lt_s (lt_s (lt_s (lt_s (lt_s (lt_s (lt_s (lt_s (lt_s (lt_s (lt_s (lt_s (lt_s (lt_s (lt_s (lt_s (lt_s (lt_s (lt_s (lt_s (lt_s (lt_s (lt_s (lt_s (lt_s (lt_s (lt_s (lt_s (lt_s (lt_s (lt_s (lt_s (lt_s (lt_s (lt_s (lt_s (lt_s (lt_s (lt_s (lt_s (lt_s (lt_s (lt_s (lt_s (lt_s (lt_s (lt_s (lt_s (lt_s (lt_s (lt_s (lt_s (lt_s (lt_s (lt_s (lt_s (lt_s (lt_s (lt_s (lt_s (lt_s (lt_s (lt_s (lt_s (lt_s (lt_s (lt_0) (by first | rfl | decide)) (by first | rfl | decide)) (by first | rfl | decide)) (by first | rfl | decide)) (by first | rfl | decide)) (by first | rfl | decide)) (by first | rfl | decide)) (by first | rfl | decide)) (by first | rfl | decide)) (by first | rfl | decide)) (by first | rfl | decide)) (by first | rfl | decide)) (by first | rfl | decide)) (by first | rfl | decide)) (by first | rfl | decide)) (by first | rfl | decide)) (by first | rfl | decide)) (by first | rfl | decide)) (by first | rfl | decide)) (by first | rfl | decide)) (by first | rfl | decide)) (by first | rfl | decide)) (by first | rfl | decide)) (by first | rfl | decide)) (by first | rfl | decide)) (by first | rfl | decide)) (by first | rfl | decide)) (by first | rfl | decide)) (by first | rfl | decide)) (by first | rfl | decide)) (by first | rfl | decide)) (by first | rfl | decide)) (by first | rfl | decide)) (by first | rfl | decide)) (by first | rfl | decide)) (by first | rfl | decide)) (by first | rfl | decide)) (by first | rfl | decide)) (by first | rfl | decide)) (by first | rfl | decide)) (by first | rfl | decide)) (by first | rfl | decide)) (by first | rfl | decide)) (by first | rfl | decide)) (by first | rfl | decide)) (by first | rfl | decide)) (by first | rfl | decide)) (by first | rfl | decide)) (by first | rfl | decide)) (by first | rfl | decide)) (by first | rfl | decide)) (by first | rfl | decide)) (by first | rfl | decide)) (by first | rfl | decide)) (by first | rfl | decide)) (by first | rfl | decide)) (by first | rfl | decide)) (by first | rfl | decide)) (by first | rfl | decide)) (by first | rfl | decide)) (by first | rfl | decide)) (by first | rfl | decide)) (by first | rfl | decide)) (by first | rfl | decide)) (by first | rfl | decide)) (by first | rfl | decide)) (by first | rfl | decide)) (by first | rfl | decide)) (by first | rfl | decide)) (by first | rfl | decide)) (by first | rfl | decide)) (by first | rfl | decide)) (by first | rfl | decide))
theorem zc_77 (h : va_at D zcl (ad 77, .inl (cy 20, 3, .inl (fun _ => 0))) H) : zok (zKn 0, ad, D, cy) (zM0 xg6 xg7 mgH mgM) H 77 := zokI (t := 20) rfl (by decide) rfl rfl h (fun _ => rfl)
theorem zc_78 (h : va_at D zcl (ad 78, .inl (cy 20, 4, .inl (fun _ => 0))) H) : zok (zKn 0, ad, D, cy) (zM0 xg6 xg7 mgH mgM) H 78 := zokI (t := 20) rfl (by decide) rfl rfl h (fun _ => rfl)
theorem zc_79 (h : va_at D zcl (ad 79, .inl (cy 20, 4, .inl (fun _ => 0))) H) : zok (zKn 0, ad, D, cy) (zM0 xg6 xg7 mgH mgM) H 79 := zokI (t := 20) rfl (by decide) rfl rfl h (fun _ => rfl)
theorem zc_80 (h : va_at D zcl (ad 80, .inl (cy 20, 4, .inl (fun _ => 0))) H) : zok (zKn 0, ad, D, cy) (zM0 xg6 xg7 mgH mgM) H 80 := zokI (t := 20) rfl (by decide) rfl rfl h (fun _ => rfl)
theorem zc_81 (h : va_at D zcl (ad 81, .inl (cy 20, 4, .inl (fun _ => 0))) H) : zok (zKn 0, ad, D, cy) (zM0 xg6 xg7 mgH mgM) H 81 := zokI (t := 20) rfl (by decide) rfl rfl h (fun _ => rfl)
theorem zc_82 (h : va_at D zcl (ad 82, .inl (cy 20, 1024, .inl (fun _ => 0))) H) : zok (zKn 0, ad, D, cy) (zM0 xg6 xg7 mgH mgM) H 82 := zokI (t := 20) rfl (by decide) rfl rfl h (fun _ => rfl)
theorem zc_83 (h : va_at D zcl (ad 83, .inl (cy 20, 1024, .inl mgH)) H) : zok (zKn 0, ad, D, cy) (zM0 xg6 xg7 mgH mgM) H 83 := zokI (t := 20) rfl (by decide) rfl rfl h (fun _ => rfl)
theorem zc_84 (h : va_at D zcl (ad 84, .inl (cy 20, 1024, .inl (fun _ => 0))) H) : zok (zKn 0, ad, D, cy) (zM0 xg6 xg7 mgH mgM) H 84 := zokI (t := 20) rfl (by decide) rfl rfl h (fun _ => rfl)
theorem zc_85 (h : va_at D zcl (ad 85, .inl (cy 20, 1024, .inl mgM)) H) : zok (zKn 0, ad, D, cy) (zM0 xg6 xg7 mgH mgM) H 85 := zokI (t := 20) rfl (by decide) rfl rfl h (fun _ => rfl)
theorem zc_86 (h : va_at D zcl (ad 86, .inl (cy 20, 320, .inl (fun _ => 0))) H) : zok (zKn 0, ad, D, cy) (zM0 xg6 xg7 mgH mgM) H 86 := zokI (t := 20) rfl (by decide) rfl rfl h (fun _ => rfl)
theorem zc_87 (h : va_at D zcl (ad 87, .inl (cy 20, 240, .inl (fun _ => 0))) H) : zok (zKn 0, ad, D, cy) (zM0 xg6 xg7 mgH mgM) H 87 := zokI (t := 20) rfl (by decide) rfl rfl h (fun _ => rfl)
theorem zc_88 (h : va_at D zcl (ad 88, .inl (cy 20, 240, .inl (fun _ => 0))) H) : zok (zKn 0, ad, D, cy) (zM0 xg6 xg7 mgH mgM) H 88 := zokI (t := 20) rfl (by decide) rfl rfl h (fun _ => rfl)
theorem zc_89 (h : va_at D zcl (ad 89, .inl (cy 20, 240, .inl (fun _ => 0))) H) : zok (zKn 0, ad, D, cy) (zM0 xg6 xg7 mgH mgM) H 89 := zokI (t := 20) rfl (by decide) rfl rfl h (fun _ => rfl)
theorem zc_90 (h : va_at D zcl (ad 90, .inl (cy 20, 240, .inl (fun _ => 0))) H) : zok (zKn 0, ad, D, cy) (zM0 xg6 xg7 mgH mgM) H 90 := zokI (t := 20) rfl (by decide) rfl rfl h (fun _ => rfl)
theorem zc_91 (h : va_at D zcl (ad 91, .inl (cy 20, 40, .inl (fun _ => 0))) H) : zok (zKn 0, ad, D, cy) (zM0 xg6 xg7 mgH mgM) H 91 := zokI (t := 20) rfl (by decide) rfl rfl h (fun _ => rfl)
theorem zc_92 (h : va_at D zcl (ad 92, .inl (cy 20, 160, .inl (fun _ => 0))) H) : zok (zKn 0, ad, D, cy) (zM0 xg6 xg7 mgH mgM) H 92 := zokI (t := 20) rfl (by decide) rfl rfl h (fun _ => rfl)
theorem zc_93 (h : va_at D zcl (ad 93, .inl (cy 20, 160, .inl (fun _ => 0))) H) : zok (zKn 0, ad, D, cy) (zM0 xg6 xg7 mgH mgM) H 93 := zokI (t := 20) rfl (by decide) rfl rfl h (fun _ => rfl)
theorem zc_94 (h : va_at D zcl (ad 94, .inl (cy 20, 160, .inl (fun _ => 0))) H) : zok (zKn 0, ad, D, cy) (zM0 xg6 xg7 mgH mgM) H 94 := zokI (t := 20) rfl (by decide) rfl rfl h (fun _ => rfl)
theorem zc_95 (h : va_at D zcl (ad 95, .inl (cy 21, 320, .inl (fun _ => 0))) H) : zok (zKn 0, ad, D, cy) (zM0 xg6 xg7 mgH mgM) H 95 := zokI (t := 21) rfl (by decide) rfl rfl h (fun _ => rfl)
theorem zc_96 (h : va_at D zcl (ad 96, .inl (cy 21, 160, .inl (fun _ => 0))) H) : zok (zKn 0, ad, D, cy) (zM0 xg6 xg7 mgH mgM) H 96 := zokI (t := 21) rfl (by decide) rfl rfl h (fun _ => rfl)
theorem zc_97 (h : va_at D zcl (ad 97, .inl (cy 20, 2, .inl (fun _ => 0))) H) : zok (zKn 0, ad, D, cy) (zM0 xg6 xg7 mgH mgM) H 97 := zokI (t := 20) rfl (by decide) rfl rfl h (fun _ => rfl)
theorem zc_98 (h : va_at D zcl (ad 98, .inl (cy 20, 80, .inl (fun _ => 0))) H) : zok (zKn 0, ad, D, cy) (zM0 xg6 xg7 mgH mgM) H 98 := zokI (t := 20) rfl (by decide) rfl rfl h (fun _ => rfl)
theorem zc_99 (h : va_at D zcl (ad 99, .inl (cy 20, 80, .inl (fun _ => 0))) H) : zok (zKn 0, ad, D, cy) (zM0 xg6 xg7 mgH mgM) H 99 := zokI (t := 20) rfl (by decide) rfl rfl h (fun _ => rfl)
theorem zc_100 (h : va_at D zcl (ad 100, .inl (cy 20, 80, .inl (fun _ => 0))) H) : zok (zKn 0, ad, D, cy) (zM0 xg6 xg7 mgH mgM) H 100 := zokI (t := 20) rfl (by decide) rfl rfl h (fun _ => rfl)
theorem zc_101 (h : va_at D zcl (ad 101, .inl (cy 20, 80, .inl (fun _ => 0))) H) : zok (zKn 0, ad, D, cy) (zM0 xg6 xg7 mgH mgM) H 101 := zokI (t := 20) rfl (by decide) rfl rfl h (fun _ => rfl)
theorem zc_102 (h : va_at D zcl (ad 102, .inl (cy 20, 80, .inl (fun _ => 0))) H) : zok (zKn 0, ad, D, cy) (zM0 xg6 xg7 mgH mgM) H 102 := zokI (t := 20) rfl (by decide) rfl rfl h (fun _ => rfl)
theorem zc_103 (h : va_at D zcl (ad 103, .inl (cy 20, 80, .inl (fun _ => 0))) H) : zok (zKn 0, ad, D, cy) (zM0 xg6 xg7 mgH mgM) H 103 := zokI (t := 20) rfl (by decide) rfl rfl h (fun _ => rfl)
theorem zc_104 (h : va_at D zcl (ad 104, .inl (cy 20, 2000, .inl (fun _ => 0))) H) : zok (zKn 0, ad, D, cy) (zM0 xg6 xg7 mgH mgM) H 104 := zokI (t := 20) rfl (by decide) rfl rfl h (fun _ => rfl)
theorem zc_105 (h : va_at D zcl (ad 105, .inl (cy 20, 2000, .inl (fun _ => 0))) H) : zok (zKn 0, ad, D, cy) (zM0 xg6 xg7 mgH mgM) H 105 := zokI (t := 20) rfl (by decide) rfl rfl h (fun _ => rfl)
theorem zc_106 (h : va_at D zcl (ad 106, .inl (cy 20, 2000, .inl (fun _ => 0))) H) : zok (zKn 0, ad, D, cy) (zM0 xg6 xg7 mgH mgM) H 106 := zokI (t := 20) rfl (by decide) rfl rfl h (fun _ => rfl)
theorem zc_107 (h : va_at D zcl (ad 107, .inl (cy 20, 2000, .inl (fun _ => 0))) H) : zok (zKn 0, ad, D, cy) (zM0 xg6 xg7 mgH mgM) H 107 := zokI (t := 20) rfl (by decide) rfl rfl h (fun _ => rfl)
theorem zc_108 (h : va_at D zcl (ad 108, .inl (cy 22, 700, .inl (fun _ => 0))) H) : zok (zKn 0, ad, D, cy) (zM0 xg6 xg7 mgH mgM) H 108 := zokI (t := 22) rfl (by decide) rfl rfl h (fun _ => rfl)
theorem zc_109 (h : va_at D zcl (ad 109, .inl (cy 20, 12, .inl (fun _ => 0))) H) : zok (zKn 0, ad, D, cy) (zM0 xg6 xg7 mgH mgM) H 109 := zokI (t := 20) rfl (by decide) rfl rfl h (fun _ => rfl)
theorem zc_110 (h : va_at D zcl (ad 110, .inl (cy 20, 12, .inl (fun _ => 0))) H) : zok (zKn 0, ad, D, cy) (zM0 xg6 xg7 mgH mgM) H 110 := zokI (t := 20) rfl (by decide) rfl rfl h (fun _ => rfl)
theorem zc_111 (h : va_at D zcl (ad 111, .inl (cy 20, 7, .inl (fun _ => 0))) H) : zok (zKn 0, ad, D, cy) (zM0 xg6 xg7 mgH mgM) H 111 := zokI (t := 20) rfl (by decide) rfl rfl h (fun _ => rfl)
theorem zc_112 (h : va_at D zcl (ad 112, .inl (cy 21, 300, .inl (fun _ => 0))) H) : zok (zKn 0, ad, D, cy) (zM0 xg6 xg7 mgH mgM) H 112 := zokI (t := 21) rfl (by decide) rfl rfl h (fun _ => rfl)
theorem zc_113 (h : va_at D zcl (ad 113, .inl (cy 20, 256, .inl (fun _ => 0))) H) : zok (zKn 0, ad, D, cy) (zM0 xg6 xg7 mgH mgM) H 113 := zokI (t := 20) rfl (by decide) rfl rfl h (fun _ => rfl)
theorem zc_114 (h : va_at D zcl (ad 114, .inl (cy 20, 256, .inl (fun _ => 0))) H) : zok (zKn 0, ad, D, cy) (zM0 xg6 xg7 mgH mgM) H 114 := zokI (t := 20) rfl (by decide) rfl rfl h (fun _ => rfl)
theorem zc_115 (h : va_at D zcl (ad 115, .inl (cy 20, 256, .inl (fun _ => 0))) H) : zok (zKn 0, ad, D, cy) (zM0 xg6 xg7 mgH mgM) H 115 := zokI (t := 20) rfl (by decide) rfl rfl h (fun _ => rfl)
theorem zc_116 (h : va_at D zcl (ad 116, .inl (cy 20, 256, .inl (fun _ => 0))) H) : zok (zKn 0, ad, D, cy) (zM0 xg6 xg7 mgH mgM) H 116 := zokI (t := 20) rfl (by decide) rfl rfl h (fun _ => rfl)
theorem zc_117 (h : va_at D zcl (ad 117, .inl (cy 20, 256, .inl (fun _ => 0))) H) : zok (zKn 0, ad, D, cy) (zM0 xg6 xg7 mgH mgM) H 117 := zokI (t := 20) rfl (by decide) rfl rfl h (fun _ => rfl)
theorem zc_118 (h : va_at D zcl (ad 118, .inl (cy 21, 256, .inl (fun _ => 0))) H) : zok (zKn 0, ad, D, cy) (zM0 xg6 xg7 mgH mgM) H 118 := zokI (t := 21) rfl (by decide) rfl rfl h (fun _ => rfl)
theorem zc_119 (h : va_at D zcl (ad 119, .inl (cy 21, 256, .inl (fun _ => 0))) H) : zok (zKn 0, ad, D, cy) (zM0 xg6 xg7 mgH mgM) H 119 := zokI (t := 21) rfl (by decide) rfl rfl h (fun _ => rfl)
theorem zc_120 (h : va_at D zcl (ad 120, .inl (cy 20, 256, .inl (fun _ => 0))) H) : zok (zKn 0, ad, D, cy) (zM0 xg6 xg7 mgH mgM) H 120 := zokI (t := 20) rfl (by decide) rfl rfl h (fun _ => rfl)
theorem zc_121 (h : va_at D zcl (ad 121, .inl (cy 20, 256, .inl (fun _ => 0))) H) : zok (zKn 0, ad, D, cy) (zM0 xg6 xg7 mgH mgM) H 121 := zokI (t := 20) rfl (by decide) rfl rfl h (fun _ => rfl)
theorem zc_122 (h : va_at D zcl (ad 122, .inl (cy 21, 256, .inl (fun _ => 0))) H) : zok (zKn 0, ad, D, cy) (zM0 xg6 xg7 mgH mgM) H 122 := zokI (t := 21) rfl (by decide) rfl rfl h (fun _ => rfl)
theorem zc_123 (h : va_at D zcl (ad 123, .inl (cy 20, 10, .inl (fun _ => 0))) H) : zok (zKn 0, ad, D, cy) (zM0 xg6 xg7 mgH mgM) H 123 := zokI (t := 20) rfl (by decide) rfl rfl h (fun _ => rfl)
theorem zc_124 (h : va_at D zcl (ad 124, .inl (cy 20, 10, .inl (fun _ => 0))) H) : zok (zKn 0, ad, D, cy) (zM0 xg6 xg7 mgH mgM) H 124 := zokI (t := 20) rfl (by decide) rfl rfl h (fun _ => rfl)
theorem zc_125 (h : va_at D zcl (ad 125, .inl (cy 20, 10, .inl (fun _ => 0))) H) : zok (zKn 0, ad, D, cy) (zM0 xg6 xg7 mgH mgM) H 125 := zokI (t := 20) rfl (by decide) rfl rfl h (fun _ => rfl)
theorem zc_126 (h : va_at D zcl (ad 126, .inl (cy 20, 256, .inl (fun _ => 0))) H) : zok (zKn 0, ad, D, cy) (zM0 xg6 xg7 mgH mgM) H 126 := zokI (t := 20) rfl (by decide) rfl rfl h (fun _ => rfl)
theorem zc_127 (h : va_at D zcl (ad 127, .inl (cy 20, 16, .inl (fun _ => 0))) H) : zok (zKn 0, ad, D, cy) (zM0 xg6 xg7 mgH mgM) H 127 := zokI (t := 20) rfl (by decide) rfl rfl h (fun _ => rfl)
theorem zc_128 (h : va_at D zcl (ad 128, .inl (cy 20, 16, .inl (fun _ => 0))) H) : zok (zKn 0, ad, D, cy) (zM0 xg6 xg7 mgH mgM) H 128 := zokI (t := 20) rfl (by decide) rfl rfl h (fun _ => rfl)
set_option maxRecDepth 100000 in
theorem zcellAt : ∀ r, r < 129 → 0 < r → ∃ e, (zCells ad cy xg6 xg7 mgH mgM)[r - 1]? = some (ad r, e) := lt_s (lt_s (lt_s (lt_s (lt_s (lt_s (lt_s (lt_s (lt_s (lt_s (lt_s (lt_s (lt_s (lt_s (lt_s (lt_s (lt_s (lt_s (lt_s (lt_s (lt_s (lt_s (lt_s (lt_s (lt_s (lt_s (lt_s (lt_s (lt_s (lt_s (lt_s (lt_s (lt_s (lt_s (lt_s (lt_s (lt_s (lt_s (lt_s (lt_s (lt_s (lt_s (lt_s (lt_s (lt_s (lt_s (lt_s (lt_s (lt_s (lt_s (lt_s (lt_s (lt_s (lt_s (lt_s (lt_s (lt_s (lt_s (lt_s (lt_s (lt_s (lt_s (lt_s (lt_s (lt_s (lt_s (lt_s (lt_s (lt_s (lt_s (lt_s (lt_s (lt_s (lt_s (lt_s (lt_s (lt_s (lt_s (lt_s (lt_s (lt_s (lt_s (lt_s (lt_s (lt_s (lt_s (lt_s (lt_s (lt_s (lt_s (lt_s (lt_s (lt_s (lt_s (lt_s (lt_s (lt_s (lt_s (lt_s (lt_s (lt_s (lt_s (lt_s (lt_s (lt_s (lt_s (lt_s (lt_s (lt_s (lt_s (lt_s (lt_s (lt_s (lt_s (lt_s (lt_s (lt_s (lt_s (lt_s (lt_s (lt_s (lt_s (lt_s (lt_s (lt_s (lt_s (lt_s (lt_s (lt_s lt_0 (fun h => absurd h (by decide))) (fun _ => ⟨_, rfl⟩)) (fun _ => ⟨_, rfl⟩)) (fun _ => ⟨_, rfl⟩)) (fun _ => ⟨_, rfl⟩)) (fun _ => ⟨_, rfl⟩)) (fun _ => ⟨_, rfl⟩)) (fun _ => ⟨_, rfl⟩)) (fun _ => ⟨_, rfl⟩)) (fun _ => ⟨_, rfl⟩)) (fun _ => ⟨_, rfl⟩)) (fun _ => ⟨_, rfl⟩)) (fun _ => ⟨_, rfl⟩)) (fun _ => ⟨_, rfl⟩)) (fun _ => ⟨_, rfl⟩)) (fun _ => ⟨_, rfl⟩)) (fun _ => ⟨_, rfl⟩)) (fun _ => ⟨_, rfl⟩)) (fun _ => ⟨_, rfl⟩)) (fun _ => ⟨_, rfl⟩)) (fun _ => ⟨_, rfl⟩)) (fun _ => ⟨_, rfl⟩)) (fun _ => ⟨_, rfl⟩)) (fun _ => ⟨_, rfl⟩)) (fun _ => ⟨_, rfl⟩)) (fun _ => ⟨_, rfl⟩)) (fun _ => ⟨_, rfl⟩)) (fun _ => ⟨_, rfl⟩)) (fun _ => ⟨_, rfl⟩)) (fun _ => ⟨_, rfl⟩)) (fun _ => ⟨_, rfl⟩)) (fun _ => ⟨_, rfl⟩)) (fun _ => ⟨_, rfl⟩)) (fun _ => ⟨_, rfl⟩)) (fun _ => ⟨_, rfl⟩)) (fun _ => ⟨_, rfl⟩)) (fun _ => ⟨_, rfl⟩)) (fun _ => ⟨_, rfl⟩)) (fun _ => ⟨_, rfl⟩)) (fun _ => ⟨_, rfl⟩)) (fun _ => ⟨_, rfl⟩)) (fun _ => ⟨_, rfl⟩)) (fun _ => ⟨_, rfl⟩)) (fun _ => ⟨_, rfl⟩)) (fun _ => ⟨_, rfl⟩)) (fun _ => ⟨_, rfl⟩)) (fun _ => ⟨_, rfl⟩)) (fun _ => ⟨_, rfl⟩)) (fun _ => ⟨_, rfl⟩)) (fun _ => ⟨_, rfl⟩)) (fun _ => ⟨_, rfl⟩)) (fun _ => ⟨_, rfl⟩)) (fun _ => ⟨_, rfl⟩)) (fun _ => ⟨_, rfl⟩)) (fun _ => ⟨_, rfl⟩)) (fun _ => ⟨_, rfl⟩)) (fun _ => ⟨_, rfl⟩)) (fun _ => ⟨_, rfl⟩)) (fun _ => ⟨_, rfl⟩)) (fun _ => ⟨_, rfl⟩)) (fun _ => ⟨_, rfl⟩)) (fun _ => ⟨_, rfl⟩)) (fun _ => ⟨_, rfl⟩)) (fun _ => ⟨_, rfl⟩)) (fun _ => ⟨_, rfl⟩)) (fun _ => ⟨_, rfl⟩)) (fun _ => ⟨_, rfl⟩)) (fun _ => ⟨_, rfl⟩)) (fun _ => ⟨_, rfl⟩)) (fun _ => ⟨_, rfl⟩)) (fun _ => ⟨_, rfl⟩)) (fun _ => ⟨_, rfl⟩)) (fun _ => ⟨_, rfl⟩)) (fun _ => ⟨_, rfl⟩)) (fun _ => ⟨_, rfl⟩)) (fun _ => ⟨_, rfl⟩)) (fun _ => ⟨_, rfl⟩)) (fun _ => ⟨_, rfl⟩)) (fun _ => ⟨_, rfl⟩)) (fun _ => ⟨_, rfl⟩)) (fun _ => ⟨_, rfl⟩)) (fun _ => ⟨_, rfl⟩)) (fun _ => ⟨_, rfl⟩)) (fun _ => ⟨_, rfl⟩)) (fun _ => ⟨_, rfl⟩)) (fun _ => ⟨_, rfl⟩)) (fun _ => ⟨_, rfl⟩)) (fun _ => ⟨_, rfl⟩)) (fun _ => ⟨_, rfl⟩)) (fun _ => ⟨_, rfl⟩)) (fun _ => ⟨_, rfl⟩)) (fun _ => ⟨_, rfl⟩)) (fun _ => ⟨_, rfl⟩)) (fun _ => ⟨_, rfl⟩)) (fun _ => ⟨_, rfl⟩)) (fun _ => ⟨_, rfl⟩)) (fun _ => ⟨_, rfl⟩)) (fun _ => ⟨_, rfl⟩)) (fun _ => ⟨_, rfl⟩)) (fun _ => ⟨_, rfl⟩)) (fun _ => ⟨_, rfl⟩)) (fun _ => ⟨_, rfl⟩)) (fun _ => ⟨_, rfl⟩)) (fun _ => ⟨_, rfl⟩)) (fun _ => ⟨_, rfl⟩)) (fun _ => ⟨_, rfl⟩)) (fun _ => ⟨_, rfl⟩)) (fun _ => ⟨_, rfl⟩)) (fun _ => ⟨_, rfl⟩)) (fun _ => ⟨_, rfl⟩)) (fun _ => ⟨_, rfl⟩)) (fun _ => ⟨_, rfl⟩)) (fun _ => ⟨_, rfl⟩)) (fun _ => ⟨_, rfl⟩)) (fun _ => ⟨_, rfl⟩)) (fun _ => ⟨_, rfl⟩)) (fun _ => ⟨_, rfl⟩)) (fun _ => ⟨_, rfl⟩)) (fun _ => ⟨_, rfl⟩)) (fun _ => ⟨_, rfl⟩)) (fun _ => ⟨_, rfl⟩)) (fun _ => ⟨_, rfl⟩)) (fun _ => ⟨_, rfl⟩)) (fun _ => ⟨_, rfl⟩)) (fun _ => ⟨_, rfl⟩)) (fun _ => ⟨_, rfl⟩)) (fun _ => ⟨_, rfl⟩)) (fun _ => ⟨_, rfl⟩)) (fun _ => ⟨_, rfl⟩)
set_option maxRecDepth 100000 in
theorem zokAll (hP : va_P D zcl (zCells ad cy xg6 xg7 mgH mgM) H) : ∀ r, r < 129 → 0 < r → zok (zKn 0, ad, D, cy) (zM0 xg6 xg7 mgH mgM) H r := lt_s (lt_s (lt_s (lt_s (lt_s (lt_s (lt_s (lt_s (lt_s (lt_s (lt_s (lt_s (lt_s (lt_s (lt_s (lt_s (lt_s (lt_s (lt_s (lt_s (lt_s (lt_s (lt_s (lt_s (lt_s (lt_s (lt_s (lt_s (lt_s (lt_s (lt_s (lt_s (lt_s (lt_s (lt_s (lt_s (lt_s (lt_s (lt_s (lt_s (lt_s (lt_s (lt_s (lt_s (lt_s (lt_s (lt_s (lt_s (lt_s (lt_s (lt_s (lt_s (lt_s (lt_s (lt_s (lt_s (lt_s (lt_s (lt_s (lt_s (lt_s (lt_s (lt_s (lt_s (lt_s (lt_s (lt_s (lt_s (lt_s (lt_s (lt_s (lt_s (lt_s (lt_s (lt_s (lt_s (lt_s (lt_s (lt_s (lt_s (lt_s (lt_s (lt_s (lt_s (lt_s (lt_s (lt_s (lt_s (lt_s (lt_s (lt_s (lt_s (lt_s (lt_s (lt_s (lt_s (lt_s (lt_s (lt_s (lt_s (lt_s (lt_s (lt_s (lt_s (lt_s (lt_s (lt_s (lt_s (lt_s (lt_s (lt_s (lt_s (lt_s (lt_s (lt_s (lt_s (lt_s (lt_s (lt_s (lt_s (lt_s (lt_s (lt_s (lt_s (lt_s (lt_s (lt_s (lt_s (lt_s lt_0 (fun h => absurd h (by decide))) (fun _ => zc_1 (hP 0 _ rfl))) (fun _ => zc_2 (hP 1 _ rfl))) (fun _ => zc_3 (hP 2 _ rfl))) (fun _ => zc_4 (hP 3 _ rfl))) (fun _ => zc_5 (hP 4 _ rfl))) (fun _ => zc_6 (hP 5 _ rfl))) (fun _ => zc_7 (hP 6 _ rfl))) (fun _ => zc_8 (hP 7 _ rfl))) (fun _ => zc_9 (hP 8 _ rfl))) (fun _ => zc_10 (hP 9 _ rfl))) (fun _ => zc_11 (hP 10 _ rfl))) (fun _ => zc_12 (hP 11 _ rfl))) (fun _ => zc_13 (hP 12 _ rfl))) (fun _ => zc_14 (hP 13 _ rfl))) (fun _ => zc_15 (hP 14 _ rfl))) (fun _ => zc_16 (hP 15 _ rfl))) (fun _ => zc_17 (hP 16 _ rfl))) (fun _ => zc_18 (hP 17 _ rfl))) (fun _ => zc_19 (hP 18 _ rfl))) (fun _ => zc_20 (hP 19 _ rfl))) (fun _ => zc_21 (hP 20 _ rfl))) (fun _ => zc_22 (hP 21 _ rfl))) (fun _ => zc_23 (hP 22 _ rfl))) (fun _ => zc_24 (hP 23 _ rfl))) (fun _ => zc_25 (hP 24 _ rfl))) (fun _ => zc_26 (hP 25 _ rfl))) (fun _ => zc_27 (hP 26 _ rfl))) (fun _ => zc_28 (hP 27 _ rfl))) (fun _ => zc_29 (hP 28 _ rfl))) (fun _ => zc_30 (hP 29 _ rfl))) (fun _ => zc_31 (hP 30 _ rfl))) (fun _ => zc_32 (hP 31 _ rfl))) (fun _ => zc_33 (hP 32 _ rfl))) (fun _ => zc_34 (hP 33 _ rfl))) (fun _ => zc_35 (hP 34 _ rfl))) (fun _ => zc_36 (hP 35 _ rfl))) (fun _ => zc_37 (hP 36 _ rfl))) (fun _ => zc_38 (hP 37 _ rfl))) (fun _ => zc_39 (hP 38 _ rfl))) (fun _ => zc_40 (hP 39 _ rfl))) (fun _ => zc_41 (hP 40 _ rfl))) (fun _ => zc_42 (hP 41 _ rfl))) (fun _ => zc_43 (hP 42 _ rfl))) (fun _ => zc_44 (hP 43 _ rfl))) (fun _ => zc_45 (hP 44 _ rfl))) (fun _ => zc_46 (hP 45 _ rfl))) (fun _ => zc_47 (hP 46 _ rfl))) (fun _ => zc_48 (hP 47 _ rfl))) (fun _ => zc_49 (hP 48 _ rfl))) (fun _ => zc_50 (hP 49 _ rfl))) (fun _ => zc_51 (hP 50 _ rfl))) (fun _ => zc_52 (hP 51 _ rfl))) (fun _ => zc_53 (hP 52 _ rfl))) (fun _ => zc_54 (hP 53 _ rfl))) (fun _ => zc_55 (hP 54 _ rfl))) (fun _ => zc_56 (hP 55 _ rfl))) (fun _ => zc_57 (hP 56 _ rfl))) (fun _ => zc_58 (hP 57 _ rfl))) (fun _ => zc_59 (hP 58 _ rfl))) (fun _ => zc_60 (hP 59 _ rfl))) (fun _ => zc_61 (hP 60 _ rfl))) (fun _ => zc_62 (hP 61 _ rfl))) (fun _ => zc_63 (hP 62 _ rfl))) (fun _ => zc_64 (hP 63 _ rfl))) (fun _ => zc_65 (hP 64 _ rfl))) (fun _ => zc_66 (hP 65 _ rfl))) (fun _ => zc_67 (hP 66 _ rfl))) (fun _ => zc_68 (hP 67 _ rfl))) (fun _ => zc_69 (hP 68 _ rfl))) (fun _ => zc_70 (hP 69 _ rfl))) (fun _ => zc_71 (hP 70 _ rfl))) (fun _ => zc_72 (hP 71 _ rfl))) (fun _ => zc_73 (hP 72 _ rfl))) (fun _ => zc_74 (hP 73 _ rfl))) (fun _ => zc_75 (hP 74 _ rfl))) (fun _ => zc_76 (hP 75 _ rfl))) (fun _ => zc_77 (hP 76 _ rfl))) (fun _ => zc_78 (hP 77 _ rfl))) (fun _ => zc_79 (hP 78 _ rfl))) (fun _ => zc_80 (hP 79 _ rfl))) (fun _ => zc_81 (hP 80 _ rfl))) (fun _ => zc_82 (hP 81 _ rfl))) (fun _ => zc_83 (hP 82 _ rfl))) (fun _ => zc_84 (hP 83 _ rfl))) (fun _ => zc_85 (hP 84 _ rfl))) (fun _ => zc_86 (hP 85 _ rfl))) (fun _ => zc_87 (hP 86 _ rfl))) (fun _ => zc_88 (hP 87 _ rfl))) (fun _ => zc_89 (hP 88 _ rfl))) (fun _ => zc_90 (hP 89 _ rfl))) (fun _ => zc_91 (hP 90 _ rfl))) (fun _ => zc_92 (hP 91 _ rfl))) (fun _ => zc_93 (hP 92 _ rfl))) (fun _ => zc_94 (hP 93 _ rfl))) (fun _ => zc_95 (hP 94 _ rfl))) (fun _ => zc_96 (hP 95 _ rfl))) (fun _ => zc_97 (hP 96 _ rfl))) (fun _ => zc_98 (hP 97 _ rfl))) (fun _ => zc_99 (hP 98 _ rfl))) (fun _ => zc_100 (hP 99 _ rfl))) (fun _ => zc_101 (hP 100 _ rfl))) (fun _ => zc_102 (hP 101 _ rfl))) (fun _ => zc_103 (hP 102 _ rfl))) (fun _ => zc_104 (hP 103 _ rfl))) (fun _ => zc_105 (hP 104 _ rfl))) (fun _ => zc_106 (hP 105 _ rfl))) (fun _ => zc_107 (hP 106 _ rfl))) (fun _ => zc_108 (hP 107 _ rfl))) (fun _ => zc_109 (hP 108 _ rfl))) (fun _ => zc_110 (hP 109 _ rfl))) (fun _ => zc_111 (hP 110 _ rfl))) (fun _ => zc_112 (hP 111 _ rfl))) (fun _ => zc_113 (hP 112 _ rfl))) (fun _ => zc_114 (hP 113 _ rfl))) (fun _ => zc_115 (hP 114 _ rfl))) (fun _ => zc_116 (hP 115 _ rfl))) (fun _ => zc_117 (hP 116 _ rfl))) (fun _ => zc_118 (hP 117 _ rfl))) (fun _ => zc_119 (hP 118 _ rfl))) (fun _ => zc_120 (hP 119 _ rfl))) (fun _ => zc_121 (hP 120 _ rfl))) (fun _ => zc_122 (hP 121 _ rfl))) (fun _ => zc_123 (hP 122 _ rfl))) (fun _ => zc_124 (hP 123 _ rfl))) (fun _ => zc_125 (hP 124 _ rfl))) (fun _ => zc_126 (hP 125 _ rfl))) (fun _ => zc_127 (hP 126 _ rfl))) (fun _ => zc_128 (hP 127 _ rfl))
theorem zK0_in {r : Nat} (h : ztag (zKn 0) r ≠ 0) : r < 129 ∧ 0 < r := by
  rcases Nat.lt_or_ge r 129 with q | q
  · refine ⟨q, Nat.pos_of_ne_zero (fun e => h ?_)⟩
    rw [e]
    rfl
  · exact absurd (show ztag (zKn 0) r = 0 by unfold ztag zKn; rw [if_neg (by omega)]) h
theorem zstart {s : State} {A : Nat → Prop} (hP : va_P D zcl (zCells ad cy xg6 xg7 mgH mgM) H) (hK : va_K D zcl (ztys (zKn 0, ad, D, cy)) s) (hD : va_D A (zCells ad cy xg6 xg7 mgH mgM)) (hNw : ∀ q ∈ znt, va_Nw (.methodLinkNest q.1 q.2.1 q.2.2.1 q.2.2.2) s) (hsr : ∀ q ∈ zsr, vk_R RX6 q.1 q.2.1 (ad (1000000 + q.2.2)) s) (hvs : vk_S zsn zsl zsb (fun i => ad (1000000 + i)) (fun i => ad (2000000 + i)) A s s.heap) (hz1 : va_Z "java/lang/String" "COMPACT_STRINGS" "Z" (.int 1) A s s.heap) (hz2 : va_Zq "jdk/internal/util/Preconditions" "SIOOBE_FORMATTER" "Ljava/util/function/BiFunction;" A s s.heap) :
    zHp (zKn 0, ad, D, cy) (zM0 xg6 xg7 mgH mgM) H ∧ zWk (zKn 0, ad, D, cy) ∧ zEv (zKn 0, ad, D, cy) A s ∧ ∀ r, ztag (zKn 0) r ≠ 0 → A (ad r) := by
  refine ⟨fun r hr => zokAll hP r (zK0_in hr).1 (zK0_in hr).2, ⟨zTyn (by decide), fun r q hr hq e => ?_⟩, ⟨hK, hNw, hsr, hvs, hz1, hz2⟩, fun r hr => ?_⟩
  · obtain ⟨e1, h1⟩ := zcellAt (ad := ad) (cy := cy) (xg6 := xg6) (xg7 := xg7) (mgH := mgH) (mgM := mgM) r (zK0_in hr).1 (zK0_in hr).2
    obtain ⟨e2, h2⟩ := zcellAt (ad := ad) (cy := cy) (xg6 := xg6) (xg7 := xg7) (mgH := mgH) (mgM := mgM) q (zK0_in hq).1 (zK0_in hq).2
    have := hD.1 _ _ _ _ h1 h2 e
    have := (zK0_in hr).2
    have := (zK0_in hq).2
    omega
  · obtain ⟨e1, h1⟩ := zcellAt (ad := ad) (cy := cy) (xg6 := xg6) (xg7 := xg7) (mgH := mgH) (mgM := mgM) r (zK0_in hr).1 (zK0_in hr).2
    exact hD.2 _ _ h1
end zSt

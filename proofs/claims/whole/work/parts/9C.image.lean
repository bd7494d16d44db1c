/-! the functions of a LAW know nothing of the images -/
theorem k_X3_compares {k k' : zK} : f_X3_compares k = f_X3_compares k' := by
  funext a b c d
  rfl
theorem k_X3_first {i j L : Nat} (h : L = 52 ∨ L = 64) : f_X3_first (zKn i) L = f_X3_first (zKn j) L := by
  obtain ⟨a1, a2, a3, a4, a5, _⟩ := zQL (i := i) h
  obtain ⟨b1, b2, b3, b4, b5, _⟩ := zQL (i := j) h
  have h1 : fb_X3_holds_10 (zKn i) L = fb_X3_holds_10 (zKn j) L := by
    funext
    simp only [fb_X3_holds_10, a1, a2, a3, a4, a5, b1, b2, b3, b4, b5, k_X3_compares (k := zKn i) (k' := zKn j)]
  have h2 : f_X3_holds (zKn i) L = f_X3_holds (zKn j) L := by
    funext
    simp only [f_X3_holds, a1, a2, a3, a4, a5, b1, b2, b3, b4, b5, h1]
  have h3 : fb_X3_first_3 (zKn i) L = fb_X3_first_3 (zKn j) L := by
    funext
    simp only [fb_X3_first_3, a1, a2, a3, a4, a5, b1, b2, b3, b4, b5, h2]
  funext
  simp only [f_X3_first, a1, a2, a3, a4, a5, b1, b2, b3, b4, b5, h3]
theorem k_X11_first {k k' : zK} : g_X11_first k = g_X11_first k' := by
  have h1 : gb_X11_holds_9 k = gb_X11_holds_9 k' := rfl
  have h2 : g_X11_holds k = g_X11_holds k' := by
    funext
    simp only [g_X11_holds, h1]
  have h3 : gb_X11_first_2 k = gb_X11_first_2 k' := by
    funext
    simp only [gb_X11_first_2, h2]
  funext
  simp only [g_X11_first, h3]
theorem k_X11_findSea {k k' : zK} : g_X11_findSea k = g_X11_findSea k' := by
  have h1 : gb_X11_findSea_4 k = gb_X11_findSea_4 k' := rfl
  funext
  simp only [g_X11_findSea, h1]
theorem k_X11_last {k k' : zK} : g_X11_last k = g_X11_last k' := by
  have h1 : gb_X11_last_5 k = gb_X11_last_5 k' := rfl
  funext
  simp only [g_X11_last, h1]
theorem zLaw.im {i j L : Nat} {M : zM} {E : zE} (h : zLaw i L M E) : zLaw j L M E := by
  obtain ⟨a1, a2, a3, a4, a5, a6, a7, a8, a9, b1, b2, b3⟩ := h
  refine ⟨a1, a2, a3, ?_, a5, a6, a7, a8, a9, ?_, ?_, ?_⟩
  · unfold zLw at *
    rw [k_X3_first (i := j) (j := i) a1]
    exact a4
  · unfold zLm at *
    rw [k_X11_first (k := zKn j) (k' := zKn i)]
    exact b1
  · unfold zSm at *
    rw [k_X11_findSea (k := zKn j) (k' := zKn i)]
    exact b2
  · rw [k_X11_last (k := zKn j) (k' := zKn i)]
    exact b3

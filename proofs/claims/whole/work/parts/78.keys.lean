/-! THE TEXT: words that begin clauses -/
/-- the bytes of a stretch -/
def wl (T : Nat → Int32) (s e : Nat) : List Int32 := (List.range (e - s)).map fun i => T (s + i)
theorem wl_len (T : Nat → Int32) (s e : Nat) : (wl T s e).length = e - s := by
  unfold wl
  rw [List.length_map, List.length_range]
theorem wl_at {T : Nat → Int32} {s e i : Nat} (h : i < e - s) : (wl T s e).getD i 0 = T (s + i) := by
  unfold wl
  rw [List.getD_eq_getElem?_getD, List.getElem?_map, List.getElem?_range h]
  rfl
theorem wl_eq {T : Nat → Int32} {s e : Nat} {W : List Int32} : wl T s e = W ↔ e - s = W.length ∧ ∀ i, i < W.length → W.getD i 0 = T (s + i) := by
  constructor
  · rintro rfl
    rw [wl_len]
    exact ⟨rfl, fun i hi => wl_at hi⟩
  · intro ⟨h1, h2⟩
    apply List.ext_getElem?
    intro i
    by_cases hi : i < e - s
    · have a := wl_at (T := T) hi
      have b := h2 i (by omega)
      rw [List.getD_eq_getElem?_getD] at a b
      rw [List.getElem?_eq_getElem (by rw [wl_len]; exact hi)] at a ⊢
      rw [List.getElem?_eq_getElem (by omega)] at b ⊢
      rw [Option.getD_some] at a b
      rw [a, b]
    · rw [List.getElem?_eq_none (by rw [wl_len]; omega), List.getElem?_eq_none (by omega)]
/-- the class has a token: from s to e -/
def xT (D : pD) (T : Nat → Int32) (s e : Nat) : Prop := D 2 0 = T ∧ D 17 0 6 = 1 ∧ D 17 0 8 = nI s ∧ D 17 0 9 = nI e
theorem X_isW0 {T : Nat → Int32} {s e : Nat} {D : pD} {E : pDL} (h : xT D T s e) (hse : s ≤ e) (he : e ≤ 1200) : Re_isWord_text0 D E = some (some (.inl (if wl T s e = tx0 then 1 else 0)), D, E) := by
  obtain ⟨h2, h6, h8, h9⟩ := h
  rw [e_Re_isWord_text0, h8, h9, pk_sub hse]
  by_cases c : e - s = 6
  · have loop : ∀ m i, i + m = 6 → (∀ j, j < i → tx0.getD j 0 = T (s + j)) → Re_isWord_text0_20 (nI i) D E = some (some (.inl (if wl T s e = tx0 then 1 else 0)), D, E) := by
      intro m
      induction m with
      | zero =>
        intro i hi hj
        obtain rfl : i = 6 := by omega
        rw [e_Re_isWord_text0_20, if_pos (nI_le (Nat.le_refl _) (by omega)), if_pos (show wl T s e = tx0 from wl_eq.mpr ⟨c, hj⟩)]
      | succ m ih =>
        intro i hi hj
        rw [e_Re_isWord_text0_20, h6, h8, h2]
        by_cases q : tx0.getD i 0 = T (s + i)
        · have ih' := ih (i + 1) (by omega) (fun j hj' => by
            by_cases z : j = i
            · rw [z]
              exact q
            · exact hj j (by omega))
          simp (disch := omega) only [sC, sN, sN0, sLL, sTT, sEE, sM1, sF, sGt, sLe, sLt, sNe, or_false, or_true, false_or, true_or, or_self, if_true, if_false, not_true_eq_false, not_false_eq_true, B1s, B0s, B2s, nI_add, q, ca1]
          exact ih'
        · rw [if_neg (show ¬ wl T s e = tx0 from fun z => q ((wl_eq.mp z).2 i (show i < 6 by omega)))]
          simp (disch := omega) only [sC, sN, sN0, sLL, sTT, sEE, sM1, sF, sGt, sLe, sLt, sNe, or_false, or_true, false_or, true_or, or_self, if_true, if_false, not_true_eq_false, not_false_eq_true, B1s, B0s, B2s, nI_add, q]
    rw [if_pos (by rw [c])]
    exact loop 6 0 (by omega) (fun j hj => absurd hj (by omega))
  · rw [if_neg (fun z => c ((iE (by omega) (by omega)).mp z).symm), if_neg (fun z => c (by rw [(wl_eq.mp z).1]; rfl))]
theorem X_isW1 {T : Nat → Int32} {s e : Nat} {D : pD} {E : pDL} (h : xT D T s e) (hse : s ≤ e) (he : e ≤ 1200) : Re_isWord_text1 D E = some (some (.inl (if wl T s e = tx1 then 1 else 0)), D, E) := by
  obtain ⟨h2, h6, h8, h9⟩ := h
  rw [e_Re_isWord_text1, h8, h9, pk_sub hse]
  by_cases c : e - s = 4
  · have loop : ∀ m i, i + m = 4 → (∀ j, j < i → tx1.getD j 0 = T (s + j)) → Re_isWord_text1_20 (nI i) D E = some (some (.inl (if wl T s e = tx1 then 1 else 0)), D, E) := by
      intro m
      induction m with
      | zero =>
        intro i hi hj
        obtain rfl : i = 4 := by omega
        rw [e_Re_isWord_text1_20, if_pos (nI_le (Nat.le_refl _) (by omega)), if_pos (show wl T s e = tx1 from wl_eq.mpr ⟨c, hj⟩)]
      | succ m ih =>
        intro i hi hj
        rw [e_Re_isWord_text1_20, h6, h8, h2]
        by_cases q : tx1.getD i 0 = T (s + i)
        · have ih' := ih (i + 1) (by omega) (fun j hj' => by
            by_cases z : j = i
            · rw [z]
              exact q
            · exact hj j (by omega))
          simp (disch := omega) only [sC, sN, sN0, sLL, sTT, sEE, sM1, sF, sGt, sLe, sLt, sNe, or_false, or_true, false_or, true_or, or_self, if_true, if_false, not_true_eq_false, not_false_eq_true, B1s, B0s, B2s, nI_add, q, ca1]
          exact ih'
        · rw [if_neg (show ¬ wl T s e = tx1 from fun z => q ((wl_eq.mp z).2 i (show i < 4 by omega)))]
          simp (disch := omega) only [sC, sN, sN0, sLL, sTT, sEE, sM1, sF, sGt, sLe, sLt, sNe, or_false, or_true, false_or, true_or, or_self, if_true, if_false, not_true_eq_false, not_false_eq_true, B1s, B0s, B2s, nI_add, q]
    rw [if_pos (by rw [c])]
    exact loop 4 0 (by omega) (fun j hj => absurd hj (by omega))
  · rw [if_neg (fun z => c ((iE (by omega) (by omega)).mp z).symm), if_neg (fun z => c (by rw [(wl_eq.mp z).1]; rfl))]
theorem X_isW2 {T : Nat → Int32} {s e : Nat} {D : pD} {E : pDL} (h : xT D T s e) (hse : s ≤ e) (he : e ≤ 1200) : Re_isWord_text2 D E = some (some (.inl (if wl T s e = tx2 then 1 else 0)), D, E) := by
  obtain ⟨h2, h6, h8, h9⟩ := h
  rw [e_Re_isWord_text2, h8, h9, pk_sub hse]
  by_cases c : e - s = 5
  · have loop : ∀ m i, i + m = 5 → (∀ j, j < i → tx2.getD j 0 = T (s + j)) → Re_isWord_text2_20 (nI i) D E = some (some (.inl (if wl T s e = tx2 then 1 else 0)), D, E) := by
      intro m
      induction m with
      | zero =>
        intro i hi hj
        obtain rfl : i = 5 := by omega
        rw [e_Re_isWord_text2_20, if_pos (nI_le (Nat.le_refl _) (by omega)), if_pos (show wl T s e = tx2 from wl_eq.mpr ⟨c, hj⟩)]
      | succ m ih =>
        intro i hi hj
        rw [e_Re_isWord_text2_20, h6, h8, h2]
        by_cases q : tx2.getD i 0 = T (s + i)
        · have ih' := ih (i + 1) (by omega) (fun j hj' => by
            by_cases z : j = i
            · rw [z]
              exact q
            · exact hj j (by omega))
          simp (disch := omega) only [sC, sN, sN0, sLL, sTT, sEE, sM1, sF, sGt, sLe, sLt, sNe, or_false, or_true, false_or, true_or, or_self, if_true, if_false, not_true_eq_false, not_false_eq_true, B1s, B0s, B2s, nI_add, q, ca1]
          exact ih'
        · rw [if_neg (show ¬ wl T s e = tx2 from fun z => q ((wl_eq.mp z).2 i (show i < 5 by omega)))]
          simp (disch := omega) only [sC, sN, sN0, sLL, sTT, sEE, sM1, sF, sGt, sLe, sLt, sNe, or_false, or_true, false_or, true_or, or_self, if_true, if_false, not_true_eq_false, not_false_eq_true, B1s, B0s, B2s, nI_add, q]
    rw [if_pos (by rw [c])]
    exact loop 5 0 (by omega) (fun j hj => absurd hj (by omega))
  · rw [if_neg (fun z => c ((iE (by omega) (by omega)).mp z).symm), if_neg (fun z => c (by rw [(wl_eq.mp z).1]; rfl))]
theorem X_isW3 {T : Nat → Int32} {s e : Nat} {D : pD} {E : pDL} (h : xT D T s e) (hse : s ≤ e) (he : e ≤ 1200) : Re_isWord_text3 D E = some (some (.inl (if wl T s e = tx3 then 1 else 0)), D, E) := by
  obtain ⟨h2, h6, h8, h9⟩ := h
  rw [e_Re_isWord_text3, h8, h9, pk_sub hse]
  by_cases c : e - s = 3
  · have loop : ∀ m i, i + m = 3 → (∀ j, j < i → tx3.getD j 0 = T (s + j)) → Re_isWord_text3_20 (nI i) D E = some (some (.inl (if wl T s e = tx3 then 1 else 0)), D, E) := by
      intro m
      induction m with
      | zero =>
        intro i hi hj
        obtain rfl : i = 3 := by omega
        rw [e_Re_isWord_text3_20, if_pos (nI_le (Nat.le_refl _) (by omega)), if_pos (show wl T s e = tx3 from wl_eq.mpr ⟨c, hj⟩)]
      | succ m ih =>
        intro i hi hj
        rw [e_Re_isWord_text3_20, h6, h8, h2]
        by_cases q : tx3.getD i 0 = T (s + i)
        · have ih' := ih (i + 1) (by omega) (fun j hj' => by
            by_cases z : j = i
            · rw [z]
              exact q
            · exact hj j (by omega))
          simp (disch := omega) only [sC, sN, sN0, sLL, sTT, sEE, sM1, sF, sGt, sLe, sLt, sNe, or_false, or_true, false_or, true_or, or_self, if_true, if_false, not_true_eq_false, not_false_eq_true, B1s, B0s, B2s, nI_add, q, ca1]
          exact ih'
        · rw [if_neg (show ¬ wl T s e = tx3 from fun z => q ((wl_eq.mp z).2 i (show i < 3 by omega)))]
          simp (disch := omega) only [sC, sN, sN0, sLL, sTT, sEE, sM1, sF, sGt, sLe, sLt, sNe, or_false, or_true, false_or, true_or, or_self, if_true, if_false, not_true_eq_false, not_false_eq_true, B1s, B0s, B2s, nI_add, q]
    rw [if_pos (by rw [c])]
    exact loop 3 0 (by omega) (fun j hj => absurd hj (by omega))
  · rw [if_neg (fun z => c ((iE (by omega) (by omega)).mp z).symm), if_neg (fun z => c (by rw [(wl_eq.mp z).1]; rfl))]
theorem X_isW4 {T : Nat → Int32} {s e : Nat} {D : pD} {E : pDL} (h : xT D T s e) (hse : s ≤ e) (he : e ≤ 1200) : Re_isWord_text4 D E = some (some (.inl (if wl T s e = tx4 then 1 else 0)), D, E) := by
  obtain ⟨h2, h6, h8, h9⟩ := h
  rw [e_Re_isWord_text4, h8, h9, pk_sub hse]
  by_cases c : e - s = 6
  · have loop : ∀ m i, i + m = 6 → (∀ j, j < i → tx4.getD j 0 = T (s + j)) → Re_isWord_text4_20 (nI i) D E = some (some (.inl (if wl T s e = tx4 then 1 else 0)), D, E) := by
      intro m
      induction m with
      | zero =>
        intro i hi hj
        obtain rfl : i = 6 := by omega
        rw [e_Re_isWord_text4_20, if_pos (nI_le (Nat.le_refl _) (by omega)), if_pos (show wl T s e = tx4 from wl_eq.mpr ⟨c, hj⟩)]
      | succ m ih =>
        intro i hi hj
        rw [e_Re_isWord_text4_20, h6, h8, h2]
        by_cases q : tx4.getD i 0 = T (s + i)
        · have ih' := ih (i + 1) (by omega) (fun j hj' => by
            by_cases z : j = i
            · rw [z]
              exact q
            · exact hj j (by omega))
          simp (disch := omega) only [sC, sN, sN0, sLL, sTT, sEE, sM1, sF, sGt, sLe, sLt, sNe, or_false, or_true, false_or, true_or, or_self, if_true, if_false, not_true_eq_false, not_false_eq_true, B1s, B0s, B2s, nI_add, q, ca1]
          exact ih'
        · rw [if_neg (show ¬ wl T s e = tx4 from fun z => q ((wl_eq.mp z).2 i (show i < 6 by omega)))]
          simp (disch := omega) only [sC, sN, sN0, sLL, sTT, sEE, sM1, sF, sGt, sLe, sLt, sNe, or_false, or_true, false_or, true_or, or_self, if_true, if_false, not_true_eq_false, not_false_eq_true, B1s, B0s, B2s, nI_add, q]
    rw [if_pos (by rw [c])]
    exact loop 6 0 (by omega) (fun j hj => absurd hj (by omega))
  · rw [if_neg (fun z => c ((iE (by omega) (by omega)).mp z).symm), if_neg (fun z => c (by rw [(wl_eq.mp z).1]; rfl))]
theorem X_isW5 {T : Nat → Int32} {s e : Nat} {D : pD} {E : pDL} (h : xT D T s e) (hse : s ≤ e) (he : e ≤ 1200) : Re_isWord_text5 D E = some (some (.inl (if wl T s e = tx5 then 1 else 0)), D, E) := by
  obtain ⟨h2, h6, h8, h9⟩ := h
  rw [e_Re_isWord_text5, h8, h9, pk_sub hse]
  by_cases c : e - s = 4
  · have loop : ∀ m i, i + m = 4 → (∀ j, j < i → tx5.getD j 0 = T (s + j)) → Re_isWord_text5_20 (nI i) D E = some (some (.inl (if wl T s e = tx5 then 1 else 0)), D, E) := by
      intro m
      induction m with
      | zero =>
        intro i hi hj
        obtain rfl : i = 4 := by omega
        rw [e_Re_isWord_text5_20, if_pos (nI_le (Nat.le_refl _) (by omega)), if_pos (show wl T s e = tx5 from wl_eq.mpr ⟨c, hj⟩)]
      | succ m ih =>
        intro i hi hj
        rw [e_Re_isWord_text5_20, h6, h8, h2]
        by_cases q : tx5.getD i 0 = T (s + i)
        · have ih' := ih (i + 1) (by omega) (fun j hj' => by
            by_cases z : j = i
            · rw [z]
              exact q
            · exact hj j (by omega))
          simp (disch := omega) only [sC, sN, sN0, sLL, sTT, sEE, sM1, sF, sGt, sLe, sLt, sNe, or_false, or_true, false_or, true_or, or_self, if_true, if_false, not_true_eq_false, not_false_eq_true, B1s, B0s, B2s, nI_add, q, ca1]
          exact ih'
        · rw [if_neg (show ¬ wl T s e = tx5 from fun z => q ((wl_eq.mp z).2 i (show i < 4 by omega)))]
          simp (disch := omega) only [sC, sN, sN0, sLL, sTT, sEE, sM1, sF, sGt, sLe, sLt, sNe, or_false, or_true, false_or, true_or, or_self, if_true, if_false, not_true_eq_false, not_false_eq_true, B1s, B0s, B2s, nI_add, q]
    rw [if_pos (by rw [c])]
    exact loop 4 0 (by omega) (fun j hj => absurd hj (by omega))
  · rw [if_neg (fun z => c ((iE (by omega) (by omega)).mp z).symm), if_neg (fun z => c (by rw [(wl_eq.mp z).1]; rfl))]
theorem X_isW6 {T : Nat → Int32} {s e : Nat} {D : pD} {E : pDL} (h : xT D T s e) (hse : s ≤ e) (he : e ≤ 1200) : Re_isWord_text6 D E = some (some (.inl (if wl T s e = tx6 then 1 else 0)), D, E) := by
  obtain ⟨h2, h6, h8, h9⟩ := h
  rw [e_Re_isWord_text6, h8, h9, pk_sub hse]
  by_cases c : e - s = 3
  · have loop : ∀ m i, i + m = 3 → (∀ j, j < i → tx6.getD j 0 = T (s + j)) → Re_isWord_text6_20 (nI i) D E = some (some (.inl (if wl T s e = tx6 then 1 else 0)), D, E) := by
      intro m
      induction m with
      | zero =>
        intro i hi hj
        obtain rfl : i = 3 := by omega
        rw [e_Re_isWord_text6_20, if_pos (nI_le (Nat.le_refl _) (by omega)), if_pos (show wl T s e = tx6 from wl_eq.mpr ⟨c, hj⟩)]
      | succ m ih =>
        intro i hi hj
        rw [e_Re_isWord_text6_20, h6, h8, h2]
        by_cases q : tx6.getD i 0 = T (s + i)
        · have ih' := ih (i + 1) (by omega) (fun j hj' => by
            by_cases z : j = i
            · rw [z]
              exact q
            · exact hj j (by omega))
          simp (disch := omega) only [sC, sN, sN0, sLL, sTT, sEE, sM1, sF, sGt, sLe, sLt, sNe, or_false, or_true, false_or, true_or, or_self, if_true, if_false, not_true_eq_false, not_false_eq_true, B1s, B0s, B2s, nI_add, q, ca1]
          exact ih'
        · rw [if_neg (show ¬ wl T s e = tx6 from fun z => q ((wl_eq.mp z).2 i (show i < 3 by omega)))]
          simp (disch := omega) only [sC, sN, sN0, sLL, sTT, sEE, sM1, sF, sGt, sLe, sLt, sNe, or_false, or_true, false_or, true_or, or_self, if_true, if_false, not_true_eq_false, not_false_eq_true, B1s, B0s, B2s, nI_add, q]
    rw [if_pos (by rw [c])]
    exact loop 3 0 (by omega) (fun j hj => absurd hj (by omega))
  · rw [if_neg (fun z => c ((iE (by omega) (by omega)).mp z).symm), if_neg (fun z => c (by rw [(wl_eq.mp z).1]; rfl))]
theorem X_isW7 {T : Nat → Int32} {s e : Nat} {D : pD} {E : pDL} (h : xT D T s e) (hse : s ≤ e) (he : e ≤ 1200) : Re_isWord_text7 D E = some (some (.inl (if wl T s e = tx7 then 1 else 0)), D, E) := by
  obtain ⟨h2, h6, h8, h9⟩ := h
  rw [e_Re_isWord_text7, h8, h9, pk_sub hse]
  by_cases c : e - s = 6
  · have loop : ∀ m i, i + m = 6 → (∀ j, j < i → tx7.getD j 0 = T (s + j)) → Re_isWord_text7_20 (nI i) D E = some (some (.inl (if wl T s e = tx7 then 1 else 0)), D, E) := by
      intro m
      induction m with
      | zero =>
        intro i hi hj
        obtain rfl : i = 6 := by omega
        rw [e_Re_isWord_text7_20, if_pos (nI_le (Nat.le_refl _) (by omega)), if_pos (show wl T s e = tx7 from wl_eq.mpr ⟨c, hj⟩)]
      | succ m ih =>
        intro i hi hj
        rw [e_Re_isWord_text7_20, h6, h8, h2]
        by_cases q : tx7.getD i 0 = T (s + i)
        · have ih' := ih (i + 1) (by omega) (fun j hj' => by
            by_cases z : j = i
            · rw [z]
              exact q
            · exact hj j (by omega))
          simp (disch := omega) only [sC, sN, sN0, sLL, sTT, sEE, sM1, sF, sGt, sLe, sLt, sNe, or_false, or_true, false_or, true_or, or_self, if_true, if_false, not_true_eq_false, not_false_eq_true, B1s, B0s, B2s, nI_add, q, ca1]
          exact ih'
        · rw [if_neg (show ¬ wl T s e = tx7 from fun z => q ((wl_eq.mp z).2 i (show i < 6 by omega)))]
          simp (disch := omega) only [sC, sN, sN0, sLL, sTT, sEE, sM1, sF, sGt, sLe, sLt, sNe, or_false, or_true, false_or, true_or, or_self, if_true, if_false, not_true_eq_false, not_false_eq_true, B1s, B0s, B2s, nI_add, q]
    rw [if_pos (by rw [c])]
    exact loop 6 0 (by omega) (fun j hj => absurd hj (by omega))
  · rw [if_neg (fun z => c ((iE (by omega) (by omega)).mp z).symm), if_neg (fun z => c (by rw [(wl_eq.mp z).1]; rfl))]
theorem X_isW8 {T : Nat → Int32} {s e : Nat} {D : pD} {E : pDL} (h : xT D T s e) (hse : s ≤ e) (he : e ≤ 1200) : Re_isWord_text8 D E = some (some (.inl (if wl T s e = tx8 then 1 else 0)), D, E) := by
  obtain ⟨h2, h6, h8, h9⟩ := h
  rw [e_Re_isWord_text8, h8, h9, pk_sub hse]
  by_cases c : e - s = 4
  · have loop : ∀ m i, i + m = 4 → (∀ j, j < i → tx8.getD j 0 = T (s + j)) → Re_isWord_text8_20 (nI i) D E = some (some (.inl (if wl T s e = tx8 then 1 else 0)), D, E) := by
      intro m
      induction m with
      | zero =>
        intro i hi hj
        obtain rfl : i = 4 := by omega
        rw [e_Re_isWord_text8_20, if_pos (nI_le (Nat.le_refl _) (by omega)), if_pos (show wl T s e = tx8 from wl_eq.mpr ⟨c, hj⟩)]
      | succ m ih =>
        intro i hi hj
        rw [e_Re_isWord_text8_20, h6, h8, h2]
        by_cases q : tx8.getD i 0 = T (s + i)
        · have ih' := ih (i + 1) (by omega) (fun j hj' => by
            by_cases z : j = i
            · rw [z]
              exact q
            · exact hj j (by omega))
          simp (disch := omega) only [sC, sN, sN0, sLL, sTT, sEE, sM1, sF, sGt, sLe, sLt, sNe, or_false, or_true, false_or, true_or, or_self, if_true, if_false, not_true_eq_false, not_false_eq_true, B1s, B0s, B2s, nI_add, q, ca1]
          exact ih'
        · rw [if_neg (show ¬ wl T s e = tx8 from fun z => q ((wl_eq.mp z).2 i (show i < 4 by omega)))]
          simp (disch := omega) only [sC, sN, sN0, sLL, sTT, sEE, sM1, sF, sGt, sLe, sLt, sNe, or_false, or_true, false_or, true_or, or_self, if_true, if_false, not_true_eq_false, not_false_eq_true, B1s, B0s, B2s, nI_add, q]
    rw [if_pos (by rw [c])]
    exact loop 4 0 (by omega) (fun j hj => absurd hj (by omega))
  · rw [if_neg (fun z => c ((iE (by omega) (by omega)).mp z).symm), if_neg (fun z => c (by rw [(wl_eq.mp z).1]; rfl))]
theorem X_isW9 {T : Nat → Int32} {s e : Nat} {D : pD} {E : pDL} (h : xT D T s e) (hse : s ≤ e) (he : e ≤ 1200) : Re_isWord_text9 D E = some (some (.inl (if wl T s e = tx9 then 1 else 0)), D, E) := by
  obtain ⟨h2, h6, h8, h9⟩ := h
  rw [e_Re_isWord_text9, h8, h9, pk_sub hse]
  by_cases c : e - s = 5
  · have loop : ∀ m i, i + m = 5 → (∀ j, j < i → tx9.getD j 0 = T (s + j)) → Re_isWord_text9_20 (nI i) D E = some (some (.inl (if wl T s e = tx9 then 1 else 0)), D, E) := by
      intro m
      induction m with
      | zero =>
        intro i hi hj
        obtain rfl : i = 5 := by omega
        rw [e_Re_isWord_text9_20, if_pos (nI_le (Nat.le_refl _) (by omega)), if_pos (show wl T s e = tx9 from wl_eq.mpr ⟨c, hj⟩)]
      | succ m ih =>
        intro i hi hj
        rw [e_Re_isWord_text9_20, h6, h8, h2]
        by_cases q : tx9.getD i 0 = T (s + i)
        · have ih' := ih (i + 1) (by omega) (fun j hj' => by
            by_cases z : j = i
            · rw [z]
              exact q
            · exact hj j (by omega))
          simp (disch := omega) only [sC, sN, sN0, sLL, sTT, sEE, sM1, sF, sGt, sLe, sLt, sNe, or_false, or_true, false_or, true_or, or_self, if_true, if_false, not_true_eq_false, not_false_eq_true, B1s, B0s, B2s, nI_add, q, ca1]
          exact ih'
        · rw [if_neg (show ¬ wl T s e = tx9 from fun z => q ((wl_eq.mp z).2 i (show i < 5 by omega)))]
          simp (disch := omega) only [sC, sN, sN0, sLL, sTT, sEE, sM1, sF, sGt, sLe, sLt, sNe, or_false, or_true, false_or, true_or, or_self, if_true, if_false, not_true_eq_false, not_false_eq_true, B1s, B0s, B2s, nI_add, q]
    rw [if_pos (by rw [c])]
    exact loop 5 0 (by omega) (fun j hj => absurd hj (by omega))
  · rw [if_neg (fun z => c ((iE (by omega) (by omega)).mp z).symm), if_neg (fun z => c (by rw [(wl_eq.mp z).1]; rfl))]
theorem X_isW10 {T : Nat → Int32} {s e : Nat} {D : pD} {E : pDL} (h : xT D T s e) (hse : s ≤ e) (he : e ≤ 1200) : Re_isWord_text10 D E = some (some (.inl (if wl T s e = tx10 then 1 else 0)), D, E) := by
  obtain ⟨h2, h6, h8, h9⟩ := h
  rw [e_Re_isWord_text10, h8, h9, pk_sub hse]
  by_cases c : e - s = 6
  · have loop : ∀ m i, i + m = 6 → (∀ j, j < i → tx10.getD j 0 = T (s + j)) → Re_isWord_text10_20 (nI i) D E = some (some (.inl (if wl T s e = tx10 then 1 else 0)), D, E) := by
      intro m
      induction m with
      | zero =>
        intro i hi hj
        obtain rfl : i = 6 := by omega
        rw [e_Re_isWord_text10_20, if_pos (nI_le (Nat.le_refl _) (by omega)), if_pos (show wl T s e = tx10 from wl_eq.mpr ⟨c, hj⟩)]
      | succ m ih =>
        intro i hi hj
        rw [e_Re_isWord_text10_20, h6, h8, h2]
        by_cases q : tx10.getD i 0 = T (s + i)
        · have ih' := ih (i + 1) (by omega) (fun j hj' => by
            by_cases z : j = i
            · rw [z]
              exact q
            · exact hj j (by omega))
          simp (disch := omega) only [sC, sN, sN0, sLL, sTT, sEE, sM1, sF, sGt, sLe, sLt, sNe, or_false, or_true, false_or, true_or, or_self, if_true, if_false, not_true_eq_false, not_false_eq_true, B1s, B0s, B2s, nI_add, q, ca1]
          exact ih'
        · rw [if_neg (show ¬ wl T s e = tx10 from fun z => q ((wl_eq.mp z).2 i (show i < 6 by omega)))]
          simp (disch := omega) only [sC, sN, sN0, sLL, sTT, sEE, sM1, sF, sGt, sLe, sLt, sNe, or_false, or_true, false_or, true_or, or_self, if_true, if_false, not_true_eq_false, not_false_eq_true, B1s, B0s, B2s, nI_add, q]
    rw [if_pos (by rw [c])]
    exact loop 6 0 (by omega) (fun j hj => absurd hj (by omega))
  · rw [if_neg (fun z => c ((iE (by omega) (by omega)).mp z).symm), if_neg (fun z => c (by rw [(wl_eq.mp z).1]; rfl))]
/-- which clause, by the class and by the reference -/
def kX (T : Nat → Int32) (s e : Nat) : Int32 := if wl T s e = tx0 then 0 else if wl T s e = tx1 then 1 else if wl T s e = tx2 then 2 else if wl T s e = tx3 then 3 else if wl T s e = tx4 then 4 else if wl T s e = tx5 then 5 else if wl T s e = tx6 then 6 else if wl T s e = tx7 then 7 else if wl T s e = tx8 then 8 else if wl T s e = tx9 then 9 else if wl T s e = tx10 then 10 else -1
def kM (T : Nat → Int32) (s e : Nat) : Int32 := if wl T s e = tx0 then 0 else if wl T s e = tx1 then 1 else if wl T s e = tx2 then 2 else if wl T s e = tx3 then 3 else if wl T s e = tx4 then 4 else if wl T s e = tx10 then 5 else if wl T s e = tx5 then 6 else if wl T s e = tx6 then 7 else if wl T s e = tx7 then 8 else if wl T s e = tx8 then 9 else if wl T s e = tx9 then 10 else -1
theorem X_key {T : Nat → Int32} {s e : Nat} {D : pD} {E : pDL} (h : xT D T s e) (hse : s ≤ e) (he : e ≤ 1200) (h10' : D 17 0 10 = 97) : Re_keyword D E = some (some (.inl (kX T s e)), D, E) := by
  rw [e_Re_keyword, if_pos h10']
  unfold kX
  rw [X_isW0 h hse he, B1s]
  by_cases c0 : wl T s e = tx0
  · rw [if_pos c0, if_neg (by decide), if_pos c0]
  · rw [if_neg c0, if_pos rfl, if_neg c0]
    rw [X_isW1 h hse he, B1s]
    by_cases c1 : wl T s e = tx1
    · rw [if_pos c1, if_neg (by decide), if_pos c1]
    · rw [if_neg c1, if_pos rfl, if_neg c1]
      rw [X_isW2 h hse he, B1s]
      by_cases c2 : wl T s e = tx2
      · rw [if_pos c2, if_neg (by decide), if_pos c2]
      · rw [if_neg c2, if_pos rfl, if_neg c2]
        rw [X_isW3 h hse he, B1s]
        by_cases c3 : wl T s e = tx3
        · rw [if_pos c3, if_neg (by decide), if_pos c3]
        · rw [if_neg c3, if_pos rfl, if_neg c3]
          rw [X_isW4 h hse he, B1s]
          by_cases c4 : wl T s e = tx4
          · rw [if_pos c4, if_neg (by decide), if_pos c4]
          · rw [if_neg c4, if_pos rfl, if_neg c4]
            rw [X_isW5 h hse he, B1s]
            by_cases c5 : wl T s e = tx5
            · rw [if_pos c5, if_neg (by decide), if_pos c5]
            · rw [if_neg c5, if_pos rfl, if_neg c5]
              rw [X_isW6 h hse he, B1s]
              by_cases c6 : wl T s e = tx6
              · rw [if_pos c6, if_neg (by decide), if_pos c6]
              · rw [if_neg c6, if_pos rfl, if_neg c6]
                rw [X_isW7 h hse he, B1s]
                by_cases c7 : wl T s e = tx7
                · rw [if_pos c7, if_neg (by decide), if_pos c7]
                · rw [if_neg c7, if_pos rfl, if_neg c7]
                  rw [X_isW8 h hse he, B1s]
                  by_cases c8 : wl T s e = tx8
                  · rw [if_pos c8, if_neg (by decide), if_pos c8]
                  · rw [if_neg c8, if_pos rfl, if_neg c8]
                    rw [X_isW9 h hse he, B1s]
                    by_cases c9 : wl T s e = tx9
                    · rw [if_pos c9, if_neg (by decide), if_pos c9]
                    · rw [if_neg c9, if_pos rfl, if_neg c9]
                      rw [X_isW10 h hse he, B1s]
                      by_cases c10 : wl T s e = tx10
                      · rw [if_pos c10, if_neg (by decide), if_pos c10]
                      · rw [if_neg c10, if_pos rfl, if_neg c10]
theorem M_see {T : Nat → Int32} {n : Nat} (hn : n ≤ 1200) {D : pD} {E : pDL} (h2 : D 100 0 2 = nI n) (hT : ∀ i, i < n → D 101 0 i = T i) {p : Nat} (hp : p < n) : Mo_see (nI p) D E = some (some (.inl (T p &&& 255)), D, E) := by
  rw [e_Mo_see, h2]
  simp (disch := omega) only [sC, sN, sN0, sLL, sTT, sEE, sM1, sF, sGt, sLe, sLt, sNe, or_false, or_true, false_or, true_or, or_self, if_true, if_false, not_true_eq_false, not_false_eq_true, B1s, B0s, B2s, hT p hp]
theorem M_see_end {n : Nat} (hn : n ≤ 1200) {D : pD} {E : pDL} (h2 : D 100 0 2 = nI n) {p : Nat} (hp : n ≤ p) (hp2 : p < 2147483648) : Mo_see (nI p) D E = some (some (.inl (-1)), D, E) := by
  rw [e_Mo_see, h2, if_pos (nI_le hp hp2)]
theorem M_kstep {T : Nat → Int32} {n s e : Nat} (hn : n ≤ 1200) (h8 : ∀ i, i < n → (T i).toInt8.toInt32 = T i) {D : pD} {E : pDL} (h2 : D 100 0 2 = nI n) (hT : ∀ i, i < n → D 101 0 i = T i) (hse : s ≤ e) (he : e ≤ n) {j a L : Nat} {W : List Int32} (hL : W.length = L) (hb : a + L < 63) (hsp : tx11.getD (a + L) 0 = 32) (hns : ∀ i, i < L → tx11.getD (a + i) 0 ≠ 32 ∧ tx11.getD (a + i) 0 = W.getD i 0 ∧ ∃ c : Nat, c < 128 ∧ W.getD i 0 = nI c) : Mo_keyAt_8 (nI s) (nI (e - s)) (nI j) (nI a) (nI a) D E = if wl T s e = W then some (some (.inl (nI j)), D, E) else Mo_keyAt_8 (nI s) (nI (e - s)) (nI (j + 1)) (nI (a + L + 1)) (nI (a + L + 1)) D E := by
  have l1 : Mo_keyAt_8 (nI s) (nI (e - s)) (nI j) (nI a) (nI a) D E = Mo_keyAt_8 (nI s) (nI (e - s)) (nI j) (nI a) (nI (a + L)) D E := by
    refine zto (fun k => Mo_keyAt_8 (nI s) (nI (e - s)) (nI j) (nI a) (nI k) D E) a (a + L) (by omega) (fun k h1 h3 => ?_)
    show Mo_keyAt_8 _ _ _ _ _ _ _ = Mo_keyAt_8 _ _ _ _ _ _ _
    have hk := (hns (k - a) (by omega)).1
    rw [show a + (k - a) = k by omega] at hk
    rw [e_Mo_keyAt_8]
    simp (disch := omega) only [sC, sN, sN0, sLL, sTT, sEE, sM1, sF, sGt, sLe, sLt, sNe, or_false, or_true, false_or, true_or, or_self, if_true, if_false, not_true_eq_false, not_false_eq_true, B1s, B0s, B2s, hk, ca1]
  rw [l1, e_Mo_keyAt_8]
  simp (disch := omega) only [sC, sN, sN0, sLL, sTT, sEE, sM1, sF, sGt, sLe, sLt, sNe, or_false, or_true, false_or, true_or, or_self, if_true, if_false, not_true_eq_false, not_false_eq_true, B1s, B0s, B2s, hsp]
  rw [show nI (a + L) - nI a = nI L by rw [pk_sub (by omega), show a + L - a = L by omega]]
  have stop0 : ∀ i, Mo_keyAt_52 (nI s) (nI (e - s)) (nI j) (nI a) (nI (a + L)) 0 (nI i) D E = Mo_keyAt_8 (nI s) (nI (e - s)) (nI (j + 1)) (nI (a + L + 1)) (nI (a + L + 1)) D E := by
    intro i
    rw [e_Mo_keyAt_52]
    simp only [if_true, ca1]
    split <;> rfl
  by_cases c : L = e - s
  · have loop : ∀ m i, i + m = L → (∀ q, q < i → W.getD q 0 = T (s + q)) → Mo_keyAt_52 (nI s) (nI (e - s)) (nI j) (nI a) (nI (a + L)) 1 (nI i) D E = if wl T s e = W then some (some (.inl (nI j)), D, E) else Mo_keyAt_8 (nI s) (nI (e - s)) (nI (j + 1)) (nI (a + L + 1)) (nI (a + L + 1)) D E := by
      intro m
      induction m with
      | zero =>
        intro i hi hq
        obtain rfl : i = L := by omega
        rw [e_Mo_keyAt_52, if_pos (nI_le (by omega) (by omega)), if_neg (by decide), if_pos (wl_eq.mpr ⟨by omega, by rw [hL]; exact hq⟩)]
      | succ m ih =>
        intro i hi hq
        obtain ⟨-, e1, cc, hcc, e2⟩ := hns i (by omega)
        have hsee := M_see (E := E) hn h2 hT (show s + i < n by omega)
        have hq2 := eq_s (h8 (s + i) (by omega)) hcc
        rw [e_Mo_keyAt_52]
        by_cases q : T (s + i) = nI cc
        · have q' : T (s + i) &&& 255 = nI cc := by rw [hq2]; exact q
          have ih' := ih (i + 1) (by omega) (fun z hz => by
            by_cases z2 : z = i
            · rw [z2, e2, q]
            · exact hq z (by omega))
          simp (disch := omega) only [sC, sN, sN0, sLL, sTT, sEE, sM1, sF, sGt, sLe, sLt, sNe, or_false, or_true, false_or, true_or, or_self, if_true, if_false, not_true_eq_false, not_false_eq_true, B1s, B0s, B2s, h10, nI_add, hsee, e1, e2, q', ca1]
          exact ih'
        · have q' : ¬ nI cc = T (s + i) &&& 255 := fun z => q (by rw [← hq2]; exact z.symm)
          rw [if_neg (show ¬ wl T s e = W from fun z => q (by rw [← (wl_eq.mp z).2 i (by omega), e2]))]
          simp (disch := omega) only [sC, sN, sN0, sLL, sTT, sEE, sM1, sF, sGt, sLe, sLt, sNe, or_false, or_true, false_or, true_or, or_self, if_true, if_false, not_true_eq_false, not_false_eq_true, B1s, B0s, B2s, h10, nI_add, hsee, e1, e2, q', ca1]
          exact stop0 (i + 1)
    rw [if_pos (by rw [c])]
    exact loop L 0 (by omega) (fun q hq => absurd hq (by omega))
  · rw [if_neg (fun z => c ((iE (by omega) (by omega)).mp z)), if_neg (show ¬ wl T s e = W from fun z => c (by rw [(wl_eq.mp z).1, hL]))]
    exact stop0 0
theorem M_key {T : Nat → Int32} {n s e : Nat} (hn : n ≤ 1200) (h8 : ∀ i, i < n → (T i).toInt8.toInt32 = T i) {D : pD} {E : pDL} (h2 : D 100 0 2 = nI n) (hT : ∀ i, i < n → D 101 0 i = T i) (hse : s ≤ e) (he : e ≤ n) : Mo_keyAt (nI s) (nI (e - s)) D E = some (some (.inl (kM T s e)), D, E) := by
  have k0 := M_kstep (E := E) hn h8 h2 hT hse he (j := 0) (a := 0) (L := 6) (W := tx0) rfl (by omega) (by decide) (fun i hi => (by decide : ∀ i, i < 6 → tx11.getD (0 + i) 0 ≠ 32 ∧ tx11.getD (0 + i) 0 = tx0.getD i 0) i hi |>.imp id (fun z => ⟨z, ([110, 111, 116, 105, 111, 110] : List Nat).getD i 0, (by decide : ∀ i, i < 6 → ([110, 111, 116, 105, 111, 110] : List Nat).getD i 0 < 128) i hi, (by decide : ∀ i, i < 6 → tx0.getD i 0 = nI (([110, 111, 116, 105, 111, 110] : List Nat).getD i 0)) i hi⟩))
  have k1 := M_kstep (E := E) hn h8 h2 hT hse he (j := 1) (a := 7) (L := 4) (W := tx1) rfl (by omega) (by decide) (fun i hi => (by decide : ∀ i, i < 4 → tx11.getD (7 + i) 0 ≠ 32 ∧ tx11.getD (7 + i) 0 = tx1.getD i 0) i hi |>.imp id (fun z => ⟨z, ([119, 111, 114, 100] : List Nat).getD i 0, (by decide : ∀ i, i < 4 → ([119, 111, 114, 100] : List Nat).getD i 0 < 128) i hi, (by decide : ∀ i, i < 4 → tx1.getD i 0 = nI (([119, 111, 114, 100] : List Nat).getD i 0)) i hi⟩))
  have k2 := M_kstep (E := E) hn h8 h2 hT hse he (j := 2) (a := 12) (L := 5) (W := tx2) rfl (by omega) (by decide) (fun i hi => (by decide : ∀ i, i < 5 → tx11.getD (12 + i) 0 ≠ 32 ∧ tx11.getD (12 + i) 0 = tx2.getD i 0) i hi |>.imp id (fun z => ⟨z, ([112, 108, 97, 99, 101] : List Nat).getD i 0, (by decide : ∀ i, i < 5 → ([112, 108, 97, 99, 101] : List Nat).getD i 0 < 128) i hi, (by decide : ∀ i, i < 5 → tx2.getD i 0 = nI (([112, 108, 97, 99, 101] : List Nat).getD i 0)) i hi⟩))
  have k3 := M_kstep (E := E) hn h8 h2 hT hse he (j := 3) (a := 18) (L := 3) (W := tx3) rfl (by omega) (by decide) (fun i hi => (by decide : ∀ i, i < 3 → tx11.getD (18 + i) 0 ≠ 32 ∧ tx11.getD (18 + i) 0 = tx3.getD i 0) i hi |>.imp id (fun z => ⟨z, ([116, 105, 101] : List Nat).getD i 0, (by decide : ∀ i, i < 3 → ([116, 105, 101] : List Nat).getD i 0 < 128) i hi, (by decide : ∀ i, i < 3 → tx3.getD i 0 = nI (([116, 105, 101] : List Nat).getD i 0)) i hi⟩))
  have k4 := M_kstep (E := E) hn h8 h2 hT hse he (j := 4) (a := 22) (L := 6) (W := tx4) rfl (by omega) (by decide) (fun i hi => (by decide : ∀ i, i < 6 → tx11.getD (22 + i) 0 ≠ 32 ∧ tx11.getD (22 + i) 0 = tx4.getD i 0) i hi |>.imp id (fun z => ⟨z, ([104, 101, 97, 114, 101, 114] : List Nat).getD i 0, (by decide : ∀ i, i < 6 → ([104, 101, 97, 114, 101, 114] : List Nat).getD i 0 < 128) i hi, (by decide : ∀ i, i < 6 → tx4.getD i 0 = nI (([104, 101, 97, 114, 101, 114] : List Nat).getD i 0)) i hi⟩))
  have k5 := M_kstep (E := E) hn h8 h2 hT hse he (j := 5) (a := 29) (L := 6) (W := tx10) rfl (by omega) (by decide) (fun i hi => (by decide : ∀ i, i < 6 → tx11.getD (29 + i) 0 ≠ 32 ∧ tx11.getD (29 + i) 0 = tx10.getD i 0) i hi |>.imp id (fun z => ⟨z, ([119, 101, 105, 103, 104, 116] : List Nat).getD i 0, (by decide : ∀ i, i < 6 → ([119, 101, 105, 103, 104, 116] : List Nat).getD i 0 < 128) i hi, (by decide : ∀ i, i < 6 → tx10.getD i 0 = nI (([119, 101, 105, 103, 104, 116] : List Nat).getD i 0)) i hi⟩))
  have k6 := M_kstep (E := E) hn h8 h2 hT hse he (j := 6) (a := 36) (L := 4) (W := tx5) rfl (by omega) (by decide) (fun i hi => (by decide : ∀ i, i < 4 → tx11.getD (36 + i) 0 ≠ 32 ∧ tx11.getD (36 + i) 0 = tx5.getD i 0) i hi |>.imp id (fun z => ⟨z, ([108, 97, 99, 107] : List Nat).getD i 0, (by decide : ∀ i, i < 4 → ([108, 97, 99, 107] : List Nat).getD i 0 < 128) i hi, (by decide : ∀ i, i < 4 → tx5.getD i 0 = nI (([108, 97, 99, 107] : List Nat).getD i 0)) i hi⟩))
  have k7 := M_kstep (E := E) hn h8 h2 hT hse he (j := 7) (a := 41) (L := 3) (W := tx6) rfl (by omega) (by decide) (fun i hi => (by decide : ∀ i, i < 3 → tx11.getD (41 + i) 0 ≠ 32 ∧ tx11.getD (41 + i) 0 = tx6.getD i 0) i hi |>.imp id (fun z => ⟨z, ([97, 100, 100] : List Nat).getD i 0, (by decide : ∀ i, i < 3 → ([97, 100, 100] : List Nat).getD i 0 < 128) i hi, (by decide : ∀ i, i < 3 → tx6.getD i 0 = nI (([97, 100, 100] : List Nat).getD i 0)) i hi⟩))
  have k8 := M_kstep (E := E) hn h8 h2 hT hse he (j := 8) (a := 45) (L := 6) (W := tx7) rfl (by omega) (by decide) (fun i hi => (by decide : ∀ i, i < 6 → tx11.getD (45 + i) 0 ≠ 32 ∧ tx11.getD (45 + i) 0 = tx7.getD i 0) i hi |>.imp id (fun z => ⟨z, ([98, 111, 114, 114, 111, 119] : List Nat).getD i 0, (by decide : ∀ i, i < 6 → ([98, 111, 114, 114, 111, 119] : List Nat).getD i 0 < 128) i hi, (by decide : ∀ i, i < 6 → tx7.getD i 0 = nI (([98, 111, 114, 114, 111, 119] : List Nat).getD i 0)) i hi⟩))
  have k9 := M_kstep (E := E) hn h8 h2 hT hse he (j := 9) (a := 52) (L := 4) (W := tx8) rfl (by omega) (by decide) (fun i hi => (by decide : ∀ i, i < 4 → tx11.getD (52 + i) 0 ≠ 32 ∧ tx11.getD (52 + i) 0 = tx8.getD i 0) i hi |>.imp id (fun z => ⟨z, ([108, 111, 110, 103] : List Nat).getD i 0, (by decide : ∀ i, i < 4 → ([108, 111, 110, 103] : List Nat).getD i 0 < 128) i hi, (by decide : ∀ i, i < 4 → tx8.getD i 0 = nI (([108, 111, 110, 103] : List Nat).getD i 0)) i hi⟩))
  have k10 := M_kstep (E := E) hn h8 h2 hT hse he (j := 10) (a := 57) (L := 5) (W := tx9) rfl (by omega) (by decide) (fun i hi => (by decide : ∀ i, i < 5 → tx11.getD (57 + i) 0 ≠ 32 ∧ tx11.getD (57 + i) 0 = tx9.getD i 0) i hi |>.imp id (fun z => ⟨z, ([110, 111, 116, 101, 115] : List Nat).getD i 0, (by decide : ∀ i, i < 5 → ([110, 111, 116, 101, 115] : List Nat).getD i 0 < 128) i hi, (by decide : ∀ i, i < 5 → tx9.getD i 0 = nI (([110, 111, 116, 101, 115] : List Nat).getD i 0)) i hi⟩))
  rw [e_Mo_keyAt]
  unfold kM
  show Mo_keyAt_8 (nI s) (nI (e - s)) (nI 0) (nI 0) (nI 0) D E = _
  rw [k0]
  by_cases c0 : wl T s e = tx0
  · rw [if_pos c0, if_pos c0]
    rfl
  · rw [if_neg c0, if_neg c0]
    show Mo_keyAt_8 (nI s) (nI (e - s)) (nI 1) (nI 7) (nI 7) D E = _
    rw [k1]
    by_cases c1 : wl T s e = tx1
    · rw [if_pos c1, if_pos c1]
      rfl
    · rw [if_neg c1, if_neg c1]
      show Mo_keyAt_8 (nI s) (nI (e - s)) (nI 2) (nI 12) (nI 12) D E = _
      rw [k2]
      by_cases c2 : wl T s e = tx2
      · rw [if_pos c2, if_pos c2]
        rfl
      · rw [if_neg c2, if_neg c2]
        show Mo_keyAt_8 (nI s) (nI (e - s)) (nI 3) (nI 18) (nI 18) D E = _
        rw [k3]
        by_cases c3 : wl T s e = tx3
        · rw [if_pos c3, if_pos c3]
          rfl
        · rw [if_neg c3, if_neg c3]
          show Mo_keyAt_8 (nI s) (nI (e - s)) (nI 4) (nI 22) (nI 22) D E = _
          rw [k4]
          by_cases c4 : wl T s e = tx4
          · rw [if_pos c4, if_pos c4]
            rfl
          · rw [if_neg c4, if_neg c4]
            show Mo_keyAt_8 (nI s) (nI (e - s)) (nI 5) (nI 29) (nI 29) D E = _
            rw [k5]
            by_cases c5 : wl T s e = tx10
            · rw [if_pos c5, if_pos c5]
              rfl
            · rw [if_neg c5, if_neg c5]
              show Mo_keyAt_8 (nI s) (nI (e - s)) (nI 6) (nI 36) (nI 36) D E = _
              rw [k6]
              by_cases c6 : wl T s e = tx5
              · rw [if_pos c6, if_pos c6]
                rfl
              · rw [if_neg c6, if_neg c6]
                show Mo_keyAt_8 (nI s) (nI (e - s)) (nI 7) (nI 41) (nI 41) D E = _
                rw [k7]
                by_cases c7 : wl T s e = tx6
                · rw [if_pos c7, if_pos c7]
                  rfl
                · rw [if_neg c7, if_neg c7]
                  show Mo_keyAt_8 (nI s) (nI (e - s)) (nI 8) (nI 45) (nI 45) D E = _
                  rw [k8]
                  by_cases c8 : wl T s e = tx7
                  · rw [if_pos c8, if_pos c8]
                    rfl
                  · rw [if_neg c8, if_neg c8]
                    show Mo_keyAt_8 (nI s) (nI (e - s)) (nI 9) (nI 52) (nI 52) D E = _
                    rw [k9]
                    by_cases c9 : wl T s e = tx8
                    · rw [if_pos c9, if_pos c9]
                      rfl
                    · rw [if_neg c9, if_neg c9]
                      show Mo_keyAt_8 (nI s) (nI (e - s)) (nI 10) (nI 57) (nI 57) D E = _
                      rw [k10]
                      by_cases c10 : wl T s e = tx9
                      · rw [if_pos c10, if_pos c10]
                        rfl
                      · rw [if_neg c10, if_neg c10]
                        show Mo_keyAt_8 (nI s) (nI (e - s)) (nI 11) (nI 63) (nI 63) D E = _
                        rw [e_Mo_keyAt_8, if_pos (nI_le (Nat.le_refl _) (by omega))]
/-- they say the same -/
theorem key_rel (T : Nat → Int32) (s e : Nat) : (kX T s e = -1 ∧ kM T s e = -1) ∨ (∃ k : Nat, k < 5 ∧ kX T s e = nI k ∧ kM T s e = nI k) ∨ (kX T s e = 10 ∧ kM T s e = 5) ∨ ∃ k : Nat, k < 5 ∧ kX T s e = nI (5 + k) ∧ kM T s e = nI (6 + k) := by
  unfold kX kM
  by_cases c0 : wl T s e = tx0
  · rw [if_pos c0, if_pos c0]
    exact Or.inr (Or.inl ⟨0, by omega, rfl, rfl⟩)
  · rw [if_neg c0, if_neg c0]
    by_cases c1 : wl T s e = tx1
    · rw [if_pos c1, if_pos c1]
      exact Or.inr (Or.inl ⟨1, by omega, rfl, rfl⟩)
    · rw [if_neg c1, if_neg c1]
      by_cases c2 : wl T s e = tx2
      · rw [if_pos c2, if_pos c2]
        exact Or.inr (Or.inl ⟨2, by omega, rfl, rfl⟩)
      · rw [if_neg c2, if_neg c2]
        by_cases c3 : wl T s e = tx3
        · rw [if_pos c3, if_pos c3]
          exact Or.inr (Or.inl ⟨3, by omega, rfl, rfl⟩)
        · rw [if_neg c3, if_neg c3]
          by_cases c4 : wl T s e = tx4
          · rw [if_pos c4, if_pos c4]
            exact Or.inr (Or.inl ⟨4, by omega, rfl, rfl⟩)
          · rw [if_neg c4, if_neg c4]
            by_cases c10 : wl T s e = tx10
            · rw [if_pos c10]
              rw [if_neg (fun z => absurd (c10.symm.trans z) (by decide)), if_neg (fun z => absurd (c10.symm.trans z) (by decide)), if_neg (fun z => absurd (c10.symm.trans z) (by decide)), if_neg (fun z => absurd (c10.symm.trans z) (by decide)), if_neg (fun z => absurd (c10.symm.trans z) (by decide)), if_pos c10]
              exact Or.inr (Or.inr (Or.inl ⟨rfl, rfl⟩))
            · rw [if_neg c10, if_neg c10]
              by_cases c5 : wl T s e = tx5
              · rw [if_pos c5, if_pos c5]
                exact Or.inr (Or.inr (Or.inr ⟨0, by omega, rfl, rfl⟩))
              · rw [if_neg c5, if_neg c5]
                by_cases c6 : wl T s e = tx6
                · rw [if_pos c6, if_pos c6]
                  exact Or.inr (Or.inr (Or.inr ⟨1, by omega, rfl, rfl⟩))
                · rw [if_neg c6, if_neg c6]
                  by_cases c7 : wl T s e = tx7
                  · rw [if_pos c7, if_pos c7]
                    exact Or.inr (Or.inr (Or.inr ⟨2, by omega, rfl, rfl⟩))
                  · rw [if_neg c7, if_neg c7]
                    by_cases c8 : wl T s e = tx8
                    · rw [if_pos c8, if_pos c8]
                      exact Or.inr (Or.inr (Or.inr ⟨3, by omega, rfl, rfl⟩))
                    · rw [if_neg c8, if_neg c8]
                      by_cases c9 : wl T s e = tx9
                      · rw [if_pos c9, if_pos c9]
                        exact Or.inr (Or.inr (Or.inr ⟨4, by omega, rfl, rfl⟩))
                      · rw [if_neg c9, if_neg c9]
                        exact Or.inl ⟨rfl, rfl⟩

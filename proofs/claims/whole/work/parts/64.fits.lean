/-! WHAT MADE SOMEBODY LAUGH: the sets, in both orders -/
def sv (q : Nat × Nat) : Int32 := ((1 : Int32) <<< (nI q.1 &&& 31)) ||| ((1 : Int32) <<< (nI q.2 &&& 31))
def pst : Nat → Nat → Nat → Nat × Nat
  | 0, l, a => (a, a + 1 + l)
  | f + 1, l, a => if l < 23 - a then (a, a + 1 + l) else pst f (l - (23 - a)) (a + 1)
def pck : Nat → Nat → Nat → Bool
  | 0, _, _ => false
  | f + 1, l, a => if l < 23 - a then Nat.blt a 23 else Nat.blt a 23 && pck f (l - (23 - a)) (a + 1)
def prM (s : Nat) : Nat × Nat := if s < 24 then (s, s) else pst 24 (s - 24) 0
theorem pck_ok : ∀ s, s < 300 → 24 ≤ s → pck 24 (s - 24) 0 = true := by decide +kernel
theorem or_same (x : Int32) : x ||| x = x := by
  apply b_ext
  intro i _
  rw [b_or, Bool.or_self]
theorem M_setOf_loop (D : pD) (E : pDL) : ∀ (f l a : Nat), l < 300 → a < 24 → pck f l a = true → Mo_setOf_17 (nI l) (nI a) D E = some (some (.inl (sv (pst f l a))), D, E)
  | 0, l, a, _, _, h => by cases h
  | f + 1, l, a, hl, ha, h => by
    have e : (23 : Int32) - nI a = nI (23 - a) := by
      rw [show (23 : Int32) = nI 23 from rfl, pk_sub (by omega)]
    rw [e_Mo_setOf_17, e, pst]
    rw [pck] at h
    by_cases c : l < 23 - a
    · rw [if_pos c, if_pos (nI_lt c (by omega))]
      unfold sv
      simp only [ca1, nI_add]
    · rw [if_neg c] at h ⊢
      rw [Bool.and_eq_true] at h
      have ha' : a < 23 := by have := h.1; rw [Nat.blt_eq] at this; exact this
      rw [if_neg (fun z => c ((iT (by omega) (by omega)).mp z)), pk_sub (by omega), ca1]
      exact M_setOf_loop D E f _ _ (by omega) (by omega) h.2
theorem M_setOf {s : Nat} (hs : s < 300) (D : pD) (E : pDL) : Mo_setOf (nI s) D E = some (some (.inl (sv (prM s))), D, E) := by
  rw [e_Mo_setOf]
  unfold prM
  by_cases c : s < 24
  · rw [if_pos c, if_neg (nle 24 c (by omega))]
    unfold sv
    rw [or_same]
  · rw [if_neg c, if_pos (nlE 24 (k := s) (by omega) (by omega)), cs24 (by omega)]
    exact M_setOf_loop D E 24 (s - 24) 0 (by omega) (by omega) (pck_ok s hs (by omega))
def lsX : List (Nat × Nat) := (List.range 24).flatMap fun t => (List.range (24 - t)).map fun l => (t, t + l)
def lsM : List (Nat × Nat) := (List.range 300).map prM
def lsum : List Nat → Nat
  | [] => 0
  | a :: l => a + lsum l
theorem lsum_app : ∀ (l l' : List Nat), lsum (l ++ l') = lsum l + lsum l'
  | [], l' => by rw [List.nil_append, lsum, Nat.zero_add]
  | a :: l, l' => by rw [List.cons_append, lsum, lsum, lsum_app l l', Nat.add_assoc]
theorem lsum_perm {l l' : List Nat} (h : l.Perm l') : lsum l = lsum l' := by
  induction h with
  | nil => rfl
  | cons a _ ih => rw [lsum, lsum, ih]
  | swap a b l => rw [lsum, lsum, lsum, lsum]; omega
  | trans _ _ h1 h2 => exact h1.trans h2
theorem ls_perm : lsX.Perm lsM := by decide +kernel
theorem nS_range (f : Nat → Nat) : ∀ n, nS f n = lsum ((List.range n).map f)
  | 0 => rfl
  | n + 1 => by rw [nS, nS_range f n, List.range_succ, List.map_append, lsum_app]; rfl
theorem lsum_flat {α : Type} (g : α → List (Nat × Nat)) (G : Nat × Nat → Nat) : ∀ l : List α, lsum ((l.flatMap g).map G) = lsum (l.map fun x => lsum ((g x).map G))
  | [] => rfl
  | a :: l => by rw [List.flatMap_cons, List.map_append, lsum_app, lsum_flat g G l, List.map_cons, lsum]
/-- the sum over all sets, in the order of the class -/
def sX (G : Nat × Nat → Nat) : Nat := nS (fun t => nS (fun l => G (t, t + l)) (24 - t)) 24
theorem sX_list (G : Nat × Nat → Nat) (N : Nat → Nat) (n : Nat) : nS (fun t => nS (fun l => G (t, t + l)) (N t)) n = lsum (((List.range n).flatMap fun t => (List.range (N t)).map fun l => (t, t + l)).map G) := by
  rw [lsum_flat, nS_range]
  have e : (fun t => nS (fun l => G (t, t + l)) (N t)) = fun x => lsum (((List.range (N x)).map fun l => (x, x + l)).map G) := by
    funext t
    rw [nS_range, List.map_map]
    rfl
  rw [e]
theorem sM_list (G : Nat × Nat → Nat) (n : Nat) : nS (fun s => G (prM s)) n = lsum (((List.range n).map prM).map G) := by
  rw [nS_range, List.map_map]
  rfl
theorem sX_M (G : Nat × Nat → Nat) : sX G = nS (fun s => G (prM s)) 300 :=
  ((sX_list G (fun t => 24 - t) 24).trans (lsum_perm (ls_perm.map G))).trans (sM_list G 300).symm
theorem nS_shift (f : Nat → Nat) : ∀ n, nS f (n + 1) = f 0 + nS (fun i => f (i + 1)) n
  | 0 => by rw [nS, nS, nS]; omega
  | n + 1 => by rw [nS, nS_shift f n, nS]; omega
/-! what was known -/
def lk (D : pD) (y : Int32) (k : Nat) : Nat → Int32
  | 0 => D 68 0 k
  | n + 1 => if ¬ y < D 73 0 n ∧ D 71 0 n = nI k then D 72 0 n else lk D y k n
def bad (D : pD) (h y : Int32) (cR : Nat) (s : Int32) (k : Nat) : Bool := decide (D 66 0 k = h) && decide (¬ y < D 69 0 k) && !decide ((if s &&& (D 67 0 k ^^^ (-1)) = 0 then (1 : Int32) else 0) = lk D y k cR)
def fbt (D : pD) (h y : Int32) (cR : Nat) (s : Int32) (k : Nat) : Nat → Bool
  | 0 => true
  | n + 1 => !(bad D h y cR s k) && fbt D h y cR s (k + 1) n
theorem X_known_loop {cL cR : Nat} (hL : cL ≤ 30) (hR : cR ≤ 20) (h y : Int32) (D : pD) (E : pDL) (h6 : D 65 0 13 = nI cR) (hv : ∀ i, i < cR → vp_in (D 71 0 i) cL) : ∀ (n k : Nat) (D1 : pD), k + n = cR → Ko [74] D D1 → (∀ w, w < 30 → D1 74 0 w = lk D y w k) → ∃ D2, La_gather_17 h y (nI k) D1 E = La_gather_65 h y 0 (dset D2 65 0 10 0) E ∧ Ko [74] D D2 ∧ ∀ w, w < 30 → D2 74 0 w = lk D y w cR
  | 0, k, D1, hk, h1, h2 => by
    obtain rfl : k = cR := by omega
    exact ⟨D1, by rw [e_La_gather_17, h1.c (by decide), h6, if_pos (nI_le (Nat.le_refl _) (by omega))], h1, h2⟩
  | n + 1, k, D1, hk, h1, h2 => by
    obtain ⟨j, hj, ej⟩ := vp_in_of (hv k (by omega)) (by omega)
    by_cases c : y < D 73 0 k
    · obtain ⟨D2, e, r⟩ := X_known_loop hL hR h y D E h6 hv n (k + 1) D1 (by omega) h1 (fun w hw => by rw [h2 w hw, lk, if_neg (fun z => z.1 c)])
      refine ⟨D2, ?_, r⟩
      rw [e_La_gather_17, h1.c (k := 65) (by decide), h6]
      simp (disch := omega) only [sC, sN, sN0, sLL, sTT, sEE, sM1, sF, sGt, sLe, sLt, sNe, or_false, or_true, false_or, true_or, or_self, if_true, if_false, not_true_eq_false, not_false_eq_true, B1s, B0s, B2s, h1.c (k := 73) (by decide), c, ca1]
      exact e
    · obtain ⟨D2, e, r⟩ := X_known_loop hL hR h y D E h6 hv n (k + 1) (dset D1 74 0 j (D 72 0 k)) (by omega) (h1.set (by decide) _ _ _) (fun w hw => by
        rw [dsA, lk, ej]
        by_cases q : w = j
        · rw [if_pos q, if_pos ⟨c, by rw [q]⟩]
        · rw [if_neg q, if_neg (fun z => q ((iE (by omega) (by omega)).mp z.2).symm), h2 w hw])
      refine ⟨D2, ?_, r⟩
      rw [e_La_gather_17, h1.c (k := 65) (by decide), h6]
      simp (disch := omega) only [sC, sN, sN0, sLL, sTT, sEE, sM1, sF, sGt, sLe, sLt, sNe, or_false, or_true, false_or, true_or, or_self, if_true, if_false, not_true_eq_false, not_false_eq_true, B1s, B0s, B2s, h1.c (k := 73) (by decide), h1.c (k := 71) (by decide), h1.c (k := 72) (by decide), ej, c, ca1]
      exact e
theorem cpy_30 {f g : Nat → Int32} {p : Nat} (h : p < 30) : va_cpy f g 0 0 30 p = f p := by
  unfold va_cpy
  rw [if_pos (by omega), show 0 + (p - 0) = p by omega]
/-- fitsAll -/
theorem X_fits_loop {cL cR : Nat} (hL : cL ≤ 30) (s h y : Int32) (D D1 : pD) (E : pDL) (e1 : D1 65 0 12 = nI cL) (e2 : ∀ k ∈ [66, 67, 69], D1 k 0 = D k 0) (e3 : ∀ w, w < 30 → D1 74 0 w = lk D y w cR) : ∀ (n k : Nat), k + n = cL → La_fitsAll_3 s h y (nI k) D1 E = some (some (.inl (if fbt D h y cR s k n = true then 1 else 0)), D1, E)
  | 0, k, hk => by
    obtain rfl : k = cL := by omega
    rw [e_La_fitsAll_3, e1, if_pos (nI_le (Nat.le_refl _) (by omega)), fbt, if_pos rfl]
  | n + 1, k, hk => by
    have ih := X_fits_loop hL s h y D D1 E e1 e2 e3 n (k + 1) (by omega)
    rw [e_La_fitsAll_3, e1, fbt]
    unfold bad
    rw [e2 66 (by decide), e2 67 (by decide), e2 69 (by decide)]
    by_cases c1 : D 66 0 k = h
    · by_cases c2 : y < D 69 0 k
      · simp (disch := omega) only [sC, sN, sN0, sLL, sTT, sEE, sM1, sF, sGt, sLe, sLt, sNe, or_false, or_true, false_or, true_or, or_self, if_true, if_false, not_true_eq_false, not_false_eq_true, B1s, B0s, B2s, c1, c2, ca1, ih, decide_true, decide_false, Bool.and_false, Bool.true_and, Bool.false_and, Bool.not_false]
      · by_cases c3 : s &&& (D 67 0 k ^^^ (-1)) = 0
        · by_cases c4 : (1 : Int32) = lk D y k cR
          · simp (disch := omega) only [sC, sN, sN0, sLL, sTT, sEE, sM1, sF, sGt, sLe, sLt, sNe, or_false, or_true, false_or, true_or, or_self, if_true, if_false, not_true_eq_false, not_false_eq_true, B1s, B0s, B2s, c1, c2, c3, e3, eq_true c4, ca1, ih, decide_true, decide_false, Bool.and_false, Bool.true_and, Bool.false_and, Bool.not_false, Bool.not_true, Bool.and_true]
          · simp (disch := omega) only [sC, sN, sN0, sLL, sTT, sEE, sM1, sF, sGt, sLe, sLt, sNe, or_false, or_true, false_or, true_or, or_self, if_true, if_false, not_true_eq_false, not_false_eq_true, B1s, B0s, B2s, c1, c2, c3, e3, c4, ca1, ih, decide_true, decide_false, Bool.and_false, Bool.true_and, Bool.false_and, Bool.not_false, Bool.not_true, Bool.and_true, reduceCtorEq]
        · by_cases c4 : (0 : Int32) = lk D y k cR
          · simp (disch := omega) only [sC, sN, sN0, sLL, sTT, sEE, sM1, sF, sGt, sLe, sLt, sNe, or_false, or_true, false_or, true_or, or_self, if_true, if_false, not_true_eq_false, not_false_eq_true, B1s, B0s, B2s, c1, c2, c3, e3, eq_true c4, ca1, ih, decide_true, decide_false, Bool.and_false, Bool.true_and, Bool.false_and, Bool.not_false, Bool.not_true, Bool.and_true]
          · simp (disch := omega) only [sC, sN, sN0, sLL, sTT, sEE, sM1, sF, sGt, sLe, sLt, sNe, or_false, or_true, false_or, true_or, or_self, if_true, if_false, not_true_eq_false, not_false_eq_true, B1s, B0s, B2s, c1, c2, c3, e3, c4, ca1, ih, decide_true, decide_false, Bool.and_false, Bool.true_and, Bool.false_and, Bool.not_false, Bool.not_true, Bool.and_true, reduceCtorEq]
    · simp (disch := omega) only [sC, sN, sN0, sLL, sTT, sEE, sM1, sF, sGt, sLe, sLt, sNe, or_false, or_true, false_or, true_or, or_self, if_true, if_false, not_true_eq_false, not_false_eq_true, B1s, B0s, B2s, c1, ca1, ih, decide_true, decide_false, Bool.and_false, Bool.true_and, Bool.false_and, Bool.not_false]
/-- does it fit -/
def fitN (D : pD) (h y : Int32) (cL cR : Nat) (q : Nat × Nat) : Nat := if fbt D h y cR (sv q) 0 cL = true then 1 else 0
theorem fitN_01 (D : pD) (h y : Int32) (cL cR : Nat) (q : Nat × Nat) : fitN D h y cL cR q = 0 ∨ fitN D h y cL cR q = 1 := by
  unfold fitN
  split
  · exact Or.inr rfl
  · exact Or.inl rfl
/-- one of the weights, where it fits -/
def fw (D : pD) (h y : Int32) (cL cR : Nat) (w : Int32 → Nat) (q : Nat × Nat) : Nat := fitN D h y cL cR q * w (sv q)
/-- what gather holds while it goes: m sets, at most c -/
def gI (D : pD) (y : Int32) (cR : Nat) (D1 : pD) (m c : Nat) : Prop := Ko [65, 74, 75] D D1 ∧ (∀ i, i ≠ 10 → D1 65 0 i = D 65 0 i) ∧ (∀ w, w < 30 → D1 74 0 w = lk D y w cR) ∧ D1 65 0 10 = nI m ∧ m ≤ c
theorem X_gather_in {cL cR : Nat} (hL : cL ≤ 30) (h y : Int32) (D : pD) (E : pDL) (e12 : D 65 0 12 = nI cL) {t : Nat} (ht : t < 24) : ∀ (n l : Nat) (D1 : pD) (m : Nat), l + n = 24 - t → gI D y cR D1 m (nS (fun t => 24 - t) t + l) → nS (fun t => 24 - t) t + (24 - t) ≤ 300 → ∃ D2 m2, La_gather_74 h y (nI t) (nI (t + l)) D1 E = La_gather_65 h y (nI (t + 1)) D2 E ∧ gI D y cR D2 m2 (nS (fun t => 24 - t) t + (24 - t)) ∧ ∀ w : Int32 → Nat, nS (fun i => w (D2 75 0 i)) m2 = nS (fun i => w (D1 75 0 i)) m + nS (fun l' => fw D h y cL cR w (t, t + (l + l'))) n
  | 0, l, D1, m, hl, hg, hb => by
    have hl' : t + l = 24 := by omega
    refine ⟨D1, m, ?_, ?_, fun w => ?_⟩
    · rw [hl', e_La_gather_74, if_pos (by decide), ca1]
    · have : l = 24 - t := by omega
      rw [← this]
      exact hg
    · rw [nS, Nat.add_zero]
  | n + 1, l, D1, m, hl, hg, hb => by
    obtain ⟨g1, g2, g3, g4, g5⟩ := hg
    have hfit : La_fitsAll (sv (t, t + l)) h y D1 E = some (some (.inl (if fbt D h y cR (sv (t, t + l)) 0 cL = true then 1 else 0)), D1, E) := by
      rw [e_La_fitsAll]
      exact X_fits_loop hL _ h y D D1 E (by rw [g2 12 (by decide), e12]) (g1.at (by decide)) g3 cL 0 (by omega)
    have hm : m < 300 := by omega
    have hsv : ((1 : Int32) <<< (nI t &&& 31)) ||| ((1 : Int32) <<< (nI (t + l) &&& 31)) = sv (t, t + l) := rfl
    by_cases c : fbt D h y cR (sv (t, t + l)) 0 cL = true
    · obtain ⟨D2, m2, r1, r2, r3⟩ := X_gather_in hL h y D E e12 ht n (l + 1) (dset (dset D1 75 0 m (sv (t, t + l))) 65 0 10 (nI (m + 1))) (m + 1) (by omega) ⟨(g1.set (by decide) _ _ _).set (by decide) _ _ _, fun i hi => by rw [dsA, if_neg hi, dsN (by decide), g2 i hi], fun w hw => by rw [dsN (by decide), dsN (by decide), g3 w hw], by rw [dsA, if_pos rfl], by omega⟩ hb
      refine ⟨D2, m2, ?_, r2, fun w => ?_⟩
      · rw [e_La_gather_74, hsv, hfit]
        simp (disch := omega) only [sC, sN, sN0, sLL, sTT, sEE, sM1, sF, sGt, sLe, sLt, sNe, or_false, or_true, false_or, true_or, or_self, if_true, if_false, not_true_eq_false, not_false_eq_true, B1s, B0s, B2s, cl24, cn24, ct24, cu24, ce24, cf24, cl300, cn300, ct300, cu300, ce300, cf300, c, h10, g4, ca1]
        exact r1
      · rw [r3 w]
        have e75 : ∀ i, dset (dset D1 75 0 m (sv (t, t + l))) 65 0 10 (nI (m + 1)) 75 0 i = if i = m then sv (t, t + l) else D1 75 0 i := fun i => by rw [dsN (by decide), dsA]
        rw [nS, e75, if_pos rfl, nS_cong (f := fun i => w (dset (dset D1 75 0 m (sv (t, t + l))) 65 0 10 (nI (m + 1)) 75 0 i)) (g := fun i => w (D1 75 0 i)) (fun i hi => by rw [e75, if_neg (by omega)])]
        rw [nS_shift (fun l' => fw D h y cL cR w (t, t + (l + l'))) n]
        have hf : fw D h y cL cR w (t, t + (l + 0)) = w (sv (t, t + l)) := by
          unfold fw fitN
          rw [Nat.add_zero, if_pos c, Nat.one_mul]
        rw [hf, nS_cong (f := fun l' => fw D h y cL cR w (t, t + (l + 1 + l'))) (g := fun l' => fw D h y cL cR w (t, t + (l + (l' + 1)))) (fun i _ => by rw [show l + 1 + i = l + (i + 1) by omega])]
        omega
    · obtain ⟨D2, m2, r1, r2, r3⟩ := X_gather_in hL h y D E e12 ht n (l + 1) D1 m (by omega) ⟨g1, g2, g3, g4, by omega⟩ hb
      refine ⟨D2, m2, ?_, r2, fun w => ?_⟩
      · rw [e_La_gather_74, hsv, hfit]
        simp (disch := omega) only [sC, sN, sN0, sLL, sTT, sEE, sM1, sF, sGt, sLe, sLt, sNe, or_false, or_true, false_or, true_or, or_self, if_true, if_false, not_true_eq_false, not_false_eq_true, B1s, B0s, B2s, cl24, cn24, ct24, cu24, ce24, cf24, c, ca1]
        exact r1
      · rw [r3 w, nS_shift (fun l' => fw D h y cL cR w (t, t + (l + l'))) n]
        have hf : fw D h y cL cR w (t, t + (l + 0)) = 0 := by
          unfold fw fitN
          rw [Nat.add_zero, if_neg c, Nat.zero_mul]
        rw [hf, Nat.zero_add, nS_cong (f := fun l' => fw D h y cL cR w (t, t + (l + 1 + l'))) (g := fun l' => fw D h y cL cR w (t, t + (l + (l' + 1)))) (fun i _ => by rw [show l + 1 + i = l + (i + 1) by omega])]
theorem tri : ∀ t, t < 24 → nS (fun t => 24 - t) t + (24 - t) ≤ 300 := by decide +kernel
theorem X_gather_out {cL cR : Nat} (hL : cL ≤ 30) (h y : Int32) (D : pD) (E : pDL) (e12 : D 65 0 12 = nI cL) : ∀ (n t : Nat) (D1 : pD) (m : Nat), t + n = 24 → gI D y cR D1 m (nS (fun t => 24 - t) t) → (∀ w : Int32 → Nat, nS (fun i => w (D1 75 0 i)) m = nS (fun t => nS (fun l => fw D h y cL cR w (t, t + l)) (24 - t)) t) → ∃ D2 m2, La_gather_65 h y (nI t) D1 E = some (some (.inl (nI m2)), D2, E) ∧ gI D y cR D2 m2 300 ∧ ∀ w : Int32 → Nat, nS (fun i => w (D2 75 0 i)) m2 = sX (fw D h y cL cR w)
  | 0, t, D1, m, ht, hg, hs => by
    obtain rfl : t = 24 := by omega
    obtain ⟨g1, g2, g3, g4, g5⟩ := hg
    refine ⟨D1, m, by rw [e_La_gather_65, if_pos (by decide), g4], ⟨g1, g2, g3, g4, g5⟩, hs⟩
  | n + 1, t, D1, m, ht, hg, hs => by
    obtain ⟨D2, m2, r1, r2, r3⟩ := X_gather_in hL h y D E e12 (t := t) (by omega) (24 - t) 0 D1 m (by omega) hg (tri t (by omega))
    obtain ⟨D3, m3, q1, q2, q3⟩ := X_gather_out hL h y D E e12 n (t + 1) D2 m2 (by omega) r2 (fun w => by
      rw [r3 w, hs w, nS]
      congr 1
      exact nS_cong (fun l _ => by rw [Nat.zero_add]))
    refine ⟨D3, m3, ?_, q2, q3⟩
    rw [e_La_gather_65, if_neg (nle 24 (k := t) (by omega) (by omega))]
    exact r1.trans q1
theorem X_gather {cL cR : Nat} (hL : cL ≤ 30) (hR : cR ≤ 20) (h y : Int32) (D : pD) (E : pDL) (e12 : D 65 0 12 = nI cL) (e13 : D 65 0 13 = nI cR) (hv : ∀ i, i < cR → vp_in (D 71 0 i) cL) : ∃ D2 m2, La_gather h y D E = some (some (.inl (nI m2)), D2, E) ∧ gI D y cR D2 m2 300 ∧ ∀ w : Int32 → Nat, nS (fun i => w (D2 75 0 i)) m2 = sX (fw D h y cL cR w) := by
  obtain ⟨D1, e1, k1, f1⟩ := X_known_loop hL hR h y D E e13 hv cR 0 (dcpy D 68 0 74 0 30) (by omega) (Ko.rf.cpy (by decide) _ _ _ _) (fun w hw => by rw [dcE, cpy_30 hw]; rfl)
  obtain ⟨D2, m2, r1, r2, r3⟩ := X_gather_out (cR := cR) hL h y D E e12 24 0 (dset D1 65 0 10 0) 0 (by omega) ⟨(k1.sub (by decide)).set (by decide) _ _ _, fun i hi => by rw [dsA, if_neg hi, k1.c (by decide)], fun w hw => by rw [dsN (by decide), f1 w hw], by rw [dsA, if_pos rfl]; rfl, Nat.zero_le _⟩ (fun w => rfl)
  refine ⟨D2, m2, ?_, r2, r3⟩
  rw [e_La_gather]
  exact e1.trans r1

/-! best: the class lays out its tables -/
/-- the places of a set, rising -/
def pl (x : Int32) (n : Nat) : List Nat := (List.range n).filter fun i => bt x i
theorem pl_0 (x : Int32) : pl x 0 = [] := rfl
theorem pl_s (x : Int32) (n : Nat) : pl x (n + 1) = if bt x n = true then pl x n ++ [n] else pl x n := by
  unfold pl
  rw [List.range_succ, List.filter_append]
  by_cases c : bt x n = true
  · rw [if_pos c, List.filter_cons_of_pos (by exact c), List.filter_nil]
  · rw [if_neg c, List.filter_cons_of_neg (by exact c), List.filter_nil, List.append_nil]
def pP (x : Int32) (n k : Nat) : Nat := (pl x n).getD k 0
theorem pl_mem {x : Int32} {n q : Nat} : q ∈ pl x n ↔ q < n ∧ bt x q = true := by
  unfold pl
  rw [List.mem_filter, List.mem_range]
theorem pP_mem {x : Int32} {n k : Nat} (h : k < (pl x n).length) : pP x n k < n ∧ bt x (pP x n k) = true := by
  apply pl_mem.mp
  unfold pP
  rw [List.getD_eq_getElem?_getD, List.getElem?_eq_getElem h]
  exact List.getElem_mem h
theorem pP_of {x : Int32} {n q : Nat} (h1 : q < n) (h2 : bt x q = true) : ∃ k, k < (pl x n).length ∧ pP x n k = q := by
  obtain ⟨k, hk, e⟩ := List.getElem_of_mem (pl_mem.mpr ⟨h1, h2⟩)
  refine ⟨k, hk, ?_⟩
  unfold pP
  rw [List.getD_eq_getElem?_getD, List.getElem?_eq_getElem hk]
  exact e
theorem pl_len (x : Int32) : ∀ n, (pl x n).length = nS (fun i => if bt x i = true then 1 else 0) n
  | 0 => rfl
  | n + 1 => by
    rw [pl_s, nS]
    by_cases c : bt x n = true
    · rw [if_pos c, if_pos c, List.length_append, pl_len x n]
      rfl
    · rw [if_neg c, if_neg c, pl_len x n]
      rfl
theorem pc_sum (n : Nat) : ∀ k, pc k n = nS (fun i => if n.testBit i = true then 1 else 0) k
  | 0 => rfl
  | k + 1 => by
    rw [pc_split 1 k, pc_sum n k, nS, pc, pc, Nat.add_zero, Nat.testBit_eq_decide_div_mod_eq]
    by_cases c : n / 2 ^ k % 2 = 1
    · rw [c]
      rfl
    · have : n / 2 ^ k % 2 = 0 := by omega
      rw [this]
      rfl
theorem bc_pl (x : Int32) : bc x = (pl x 32).length := by
  rw [pl_len]
  exact pc_sum _ 32
theorem pl_same {x : Int32} {c : Nat} (h : ∀ i, i < 32 → bt x i = true → i < c) (hc : c ≤ 32) : pl x 32 = pl x c := by
  have : ∀ n, c ≤ n → n ≤ 32 → pl x n = pl x c := by
    intro n
    induction n with
    | zero => intro h1 _; rw [show c = 0 by omega]
    | succ n ih =>
      intro h1 h2
      by_cases e : c = n + 1
      · rw [e]
      · rw [pl_s, if_neg (fun z => by have := h n (by omega) z; omega), ih (by omega) (by omega)]
  exact this 32 hc (Nat.le_refl _)
theorem pl_mono (x : Int32) : ∀ (n k : Nat), n ≤ k → (pl x n).length ≤ (pl x k).length := by
  intro n k h
  induction h with
  | refl => exact Nat.le_refl _
  | step _ ih =>
    rw [pl_s]
    split
    · rw [List.length_append]
      omega
    · exact ih
theorem pP_s {x : Int32} {n k : Nat} (h : k < (pl x n).length) : pP x (n + 1) k = pP x n k := by
  unfold pP
  rw [pl_s]
  split
  · rw [List.getD_eq_getElem?_getD, List.getD_eq_getElem?_getD, List.getElem?_append_left h]
  · rfl
theorem pP_new {x : Int32} {n : Nat} (h : bt x n = true) : pP x (n + 1) (pl x n).length = n := by
  unfold pP
  rw [pl_s, if_pos h, List.getD_eq_getElem?_getD, List.getElem?_append_right (Nat.le_refl _), Nat.sub_self]
  rfl
theorem pP_inc {x : Int32} : ∀ (n k l : Nat), k < l → l < (pl x n).length → pP x n k < pP x n l
  | 0, k, l, _, h => absurd h (by rw [pl_0]; exact Nat.not_lt_zero _)
  | n + 1, k, l, h1, h2 => by
    by_cases c : l < (pl x n).length
    · rw [pP_s c, pP_s (by omega)]
      exact pP_inc n k l h1 c
    · by_cases hb : bt x n = true
      · have hl : (pl x (n + 1)).length = (pl x n).length + 1 := by
          rw [pl_s, if_pos hb, List.length_append]
          rfl
        have e : l = (pl x n).length := by omega
        rw [e, pP_new hb, pP_s (by omega)]
        exact (pP_mem (by omega)).1
      · rw [pl_s, if_neg hb] at h2
        exact absurd h2 c
theorem pP_inj {x : Int32} {n k l : Nat} (hk : k < (pl x n).length) (hl : l < (pl x n).length) (h : pP x n k = pP x n l) : k = l := by
  rcases Nat.lt_trichotomy k l with q | q | q
  · have := pP_inc n k l q hl
    omega
  · exact q
  · have := pP_inc n l k q hk
    omega
theorem full_b : ∀ c, c < 25 → ∀ i, i < 32 → bt (((1 : Int32) <<< (nI c &&& 31)) - 1) i = decide (i < c) := by decide +kernel
def sK : List Nat := [50, 51, 52, 53, 54, 55, 56]
theorem lO_ko {ks : List Nat} {D D' : pD} (hk : Ko ks D D') (hs : ∀ k ∈ [5, 6, 8, 9, 10, 11, 47], k ∉ ks) (cW p o : Nat) : lO D' cW p o = lO D cW p o := by
  have e := hk.at hs
  unfold lO pN
  rw [e 5 (by decide), e 6 (by decide), e 8 (by decide), e 9 (by decide), e 10 (by decide), e 11 (by decide), e 47 (by decide)]
/-- while places are gathered -/
def bgI (D D1 : pD) (cW : Nat) (x : Int32) (p : Nat) : Prop := Ko [50, 51, 52, 53, 54, 55, 56] D D1 ∧ D1 50 0 7 = nI (pl x p).length ∧ D1 50 0 8 = nI (cW + 1) ∧ D1 50 0 9 = nI NW ∧ ∀ k, k < (pl x p).length → D1 51 0 k = nI (pP x p k) ∧ (∀ a, a ≤ cW → D1 52 (k + 1) a = lO D cW (pP x p k) a) ∧ ∀ a, a ≤ cW → bt (D1 54 1 k) a = true
theorem X_bg70 {cN cW cP cT cH : Nat} {D : pD} {E : pDL} (hB : iBook cN cW cP cT cH D) (x : Int32) {p s : Nat} (hp : p < 24) (hs : s < 4) : ∀ (n a : Nat) (D1 : pD), a + n = cW + 1 → Ko [50, 51, 52, 53, 54, 55, 56] D D1 → D1 50 0 7 = nI s → D1 50 0 8 = nI (cW + 1) → ∃ D2, Se_begin_70 x (nI p) (nI a) D1 E = Se_begin_28 x (nI (p + 1)) (dset (dset D2 54 1 s (((1 : Int32) <<< (nI (cW + 1) &&& 31)) - 1)) 50 0 7 (nI (s + 1))) E ∧ (∀ q j, (q ≠ 52 ∨ j ≠ s + 1) → D2 q j = D1 q j) ∧ (∀ c, c < a → D2 52 (s + 1) c = D1 52 (s + 1) c) ∧ ∀ c, a ≤ c → c ≤ cW → D2 52 (s + 1) c = lO D cW p c
  | 0, a, D1, ha, k1, e7, e8 => by
    have n2 := hB.1.1.2.1
    refine ⟨D1, ?_, fun _ _ _ => rfl, fun _ _ => rfl, fun c h1 h2 => absurd h1 (by omega)⟩
    rw [e_Se_begin_70, e8, e7]
    simp (disch := omega) only [sC, sN, sN0, sLL, sTT, sEE, sM1, sF, sGt, sLe, sLt, sNe, or_false, or_true, false_or, true_or, or_self, if_true, if_false, not_true_eq_false, not_false_eq_true, B1s, B0s, B2s, ca1, show (0 : Nat) < 5 from by decide, Nat.zero_add]
  | n + 1, a, D1, ha, k1, e7, e8 => by
    have n2 := hB.1.1.2.1
    have hB1 := hB.ko k1 (by decide)
    obtain ⟨D2, r1, r2, r3, r4⟩ := X_bg70 (E := E) hB x hp hs n (a + 1) (dset D1 52 (s + 1) a (lO D cW p a)) (by omega) (k1.set (by decide) _ _ _) (by rw [dsJ (Or.inl (by decide))]; exact e7) (by rw [dsJ (Or.inl (by decide))]; exact e8)
    refine ⟨D2, ?_, fun q j hq => by rw [r2 q j hq, dsJ hq], fun c hc => by rw [r3 c (by omega), dsE, if_neg (by omega)], fun c h1 h2 => ?_⟩
    · rw [e_Se_begin_70, e8, e7]
      simp (disch := omega) only [sC, sN, sN0, sLL, sTT, sEE, sM1, sF, sGt, sLe, sLt, sNe, or_false, or_true, false_or, true_or, or_self, if_true, if_false, not_true_eq_false, not_false_eq_true, B1s, B0s, B2s, X_opt hB1 hp (show a ≤ cW by omega), lO_ko k1 (by decide), ca1]
      exact r1
    · by_cases e : c = a
      · subst e
        rw [r3 c (by omega), dsE, if_pos rfl]
      · exact r4 c (by omega) h2
theorem X_bg28 {cN cW cP cT cH : Nat} {D : pD} {E : pDL} (hB : iBook cN cW cP cT cH D) (x : Int32) (hl : (pl x cP).length ≤ 4) : ∀ (n p : Nat) (D1 : pD), p + n = cP → bgI D D1 cW x p → ∃ D2, Se_begin_28 x (nI p) D1 E = Se_begin_141 0 D2 E ∧ bgI D D2 cW x cP
  | 0, p, D1, hp, h => by
    have n3 := hB.1.1.2.2.1
    obtain rfl : p = cP := by omega
    have hB1 := hB.ko h.1 (by decide)
    exact ⟨D1, by rw [e_Se_begin_28, hB1.1.2.1.2.2.1, if_pos (nI_le (Nat.le_refl _) (by omega))], h⟩
  | n + 1, p, D1, hp, h => by
    have n2 := hB.1.1.2.1
    have n3 := hB.1.1.2.2.1
    have hp24 : p < 24 := by omega
    have hB1 := hB.ko h.1 (by decide)
    obtain ⟨h1, h2, h3, h4, h5⟩ := h
    have hlp : (pl x p).length ≤ 4 := Nat.le_trans (pl_mono x p cP (by omega)) hl
    by_cases c : bt x p = true
    · have c' : ¬ (x >>> (nI p &&& 31)) &&& 1 = 0 := fun z => by rw [bit0 (by omega), c] at z; cases z
      have hls : (pl x (p + 1)).length = (pl x p).length + 1 := by
        rw [pl_s, if_pos c, List.length_append]
        rfl
      have hl4 : (pl x p).length < 4 := by
        have := pl_mono x (p + 1) cP (by omega)
        omega
      generalize hsz : (pl x p).length = s at *
      obtain ⟨D2, r1, r2, r3, r4⟩ := X_bg70 (E := E) hB x hp24 hl4 (cW + 1) 0 (dset D1 51 0 s (nI p)) (by omega) (h1.set (by decide) _ _ _) (by rw [dsN (by decide), h2]) (by rw [dsN (by decide), h3])
      have fr : ∀ q j, q ≠ 51 → (q ≠ 52 ∨ j ≠ s + 1) → D2 q j = D1 q j := fun q j hq hj => by rw [r2 q j hj, dsN hq]
      obtain ⟨D3, t1, t2⟩ := X_bg28 (E := E) hB x hl n (p + 1) (dset (dset D2 54 1 s (((1 : Int32) <<< (nI (cW + 1) &&& 31)) - 1)) 50 0 7 (nI (s + 1))) (by omega) (by
        refine ⟨?_, ?_, ?_, ?_, ?_⟩
        · refine (Ko.set ?_ (by decide) _ _ _).set (by decide) _ _ _
          intro k hk
          funext j
          rw [fr k j (fun z => hk (by rw [z]; decide)) (Or.inl (fun z => hk (by rw [z]; decide))), h1 k hk]
        · rw [dsA, if_pos rfl, hls]
        · rw [dsA, if_neg (by decide), dsJ (Or.inl (by decide)), fr 50 0 (by decide) (Or.inl (by decide)), h3]
        · rw [dsA, if_neg (by decide), dsJ (Or.inl (by decide)), fr 50 0 (by decide) (Or.inl (by decide)), h4]
        · intro k hk
          rw [hls] at hk
          by_cases e : k = s
          · rw [e]
            have ep : pP x (p + 1) s = p := by rw [← hsz]; exact pP_new c
            refine ⟨?_, fun a ha => ?_, fun a ha => ?_⟩
            · rw [dsN (by decide), dsJ (Or.inl (by decide)), r2 51 0 (Or.inl (by decide)), dsA, if_pos rfl, ep]
            · rw [dsJ (Or.inl (by decide)), dsJ (Or.inl (by decide)), r4 a (by omega) ha, ep]
            · rw [dsJ (Or.inl (by decide)), dsE, if_pos rfl, full_b _ (by omega) _ (by omega)]
              exact decide_eq_true (by omega)
          · obtain ⟨g1, g2, g3⟩ := h5 k (by omega)
            have ep : pP x (p + 1) k = pP x p k := pP_s (by rw [hsz]; omega)
            refine ⟨?_, fun a ha => ?_, fun a ha => ?_⟩
            · rw [dsN (by decide), dsJ (Or.inl (by decide)), r2 51 0 (Or.inl (by decide)), dsA, if_neg e, ep, g1]
            · rw [dsJ (Or.inl (by decide)), dsJ (Or.inl (by decide)), r2 52 (k + 1) (Or.inr (by omega)), dsN (by decide), ep, g2 a ha]
            · rw [dsJ (Or.inl (by decide)), dsE, if_neg e, fr 54 1 (by decide) (Or.inl (by decide)), g3 a ha])
      refine ⟨D3, ?_, t2⟩
      rw [e_Se_begin_28, hB1.1.2.1.2.2.1]
      simp (disch := omega) only [sC, sN, sN0, sLL, sTT, sEE, sM1, sF, sGt, sLe, sLt, sNe, or_false, or_true, false_or, true_or, or_self, if_true, if_false, not_true_eq_false, not_false_eq_true, B1s, B0s, B2s, cl4, cn4, ct4, cu4, ce4, cf4, c', h2]
      exact r1.trans t1
    · have c' : (x >>> (nI p &&& 31)) &&& 1 = 0 := (bit0 (by omega)).mpr (by simpa using c)
      have e1 : pl x (p + 1) = pl x p := by rw [pl_s, if_neg c]
      have e2 : ∀ k, pP x (p + 1) k = pP x p k := fun k => by
        unfold pP
        rw [e1]
      obtain ⟨D3, t1, t2⟩ := X_bg28 (E := E) hB x hl n (p + 1) D1 (by omega) ⟨h1, by rw [e1]; exact h2, h3, h4, by
        rw [e1]
        intro k hk
        rw [e2]
        exact h5 k hk⟩
      refine ⟨D3, ?_, t2⟩
      rw [e_Se_begin_28, hB1.1.2.1.2.2.1]
      simp (disch := omega) only [sC, sN, sN0, sLL, sTT, sEE, sM1, sF, sGt, sLe, sLt, sNe, or_false, or_true, false_or, true_or, or_self, if_true, if_false, not_true_eq_false, not_false_eq_true, B1s, B0s, B2s, c', ca1]
      exact t1
theorem X_fillG {E : pDL} (v : Int32) {r : Nat} (hr : r < 16) : ∀ (n i : Nat) (D1 : pD), i + n = 21 → ∃ D2, Ja_fillI_goesWith_5 r v (nI i) (nI 21) D1 E = some (none, D2, E) ∧ (∀ q j, (q ≠ 53 ∨ j ≠ r + 1) → D2 q j = D1 q j) ∧ (∀ c, i ≤ c → c < 21 → D2 53 (r + 1) c = v) ∧ ∀ c, c < i → D2 53 (r + 1) c = D1 53 (r + 1) c
  | 0, i, D1, hi => ⟨D1, by rw [e_Ja_fillI_goesWith_5, if_pos (nI_le (by omega) (by omega))], fun _ _ _ => rfl, fun c h1 h2 => absurd h1 (by omega), fun _ _ => rfl⟩
  | n + 1, i, D1, hi => by
    obtain ⟨D2, r1, r2, r3, r4⟩ := X_fillG (E := E) v hr n (i + 1) (dset D1 53 (r + 1) i v) (by omega)
    refine ⟨D2, ?_, fun q j hq => by rw [r2 q j hq, dsJ hq], fun c h1 h2 => ?_, fun c hc => by rw [r4 c (by omega), dsE, if_neg (by omega)]⟩
    · rw [e_Ja_fillI_goesWith_5]
      simp (disch := omega) only [sC, sN, sN0, sLL, sTT, sEE, sM1, sF, sGt, sLe, sLt, sNe, or_false, or_true, false_or, true_or, or_self, if_true, if_false, not_true_eq_false, not_false_eq_true, B1s, B0s, B2s, hr, ca1]
      exact r1
    · by_cases e : c = i
      · subst e
        rw [r4 c (by omega), dsE, if_pos rfl]
      · exact r3 c (by omega) h2
theorem X_bg141 {cW : Nat} (hW : cW ≤ 20) {E : pDL} : ∀ (n r : Nat) (D1 : pD), r + n = 16 → D1 50 0 8 = nI (cW + 1) → ∃ D2, Se_begin_141 (nI r) D1 E = some (none, D2, E) ∧ (∀ q, q ≠ 53 → D2 q = D1 q) ∧ (∀ s, r ≤ s → s < 16 → ∀ a, a < 21 → ∀ c, c < 32 → bt (D2 53 (s + 1) a) c = decide (c < cW + 1)) ∧ ∀ j, j < r + 1 → D2 53 j = D1 53 j
  | 0, r, D1, hr, e8 => ⟨D1, by rw [e_Se_begin_141, if_pos (nlE 16 (k := r) (by omega) (by omega))], fun _ _ => rfl, fun s h1 h2 => absurd h1 (by omega), fun _ _ => rfl⟩
  | n + 1, r, D1, hr, e8 => by
    obtain ⟨D2, r1, r2, r3, -⟩ := X_fillG (E := E) (((1 : Int32) <<< (nI (cW + 1) &&& 31)) - 1) (show r < 16 by omega) 21 0 D1 (by omega)
    obtain ⟨D3, t1, t2, t3, t4⟩ := X_bg141 hW (E := E) n (r + 1) D2 (by omega) (by rw [r2 50 0 (Or.inl (by decide)), e8])
    refine ⟨D3, ?_, fun q hq => by rw [t2 q hq]; exact funext fun j => r2 q j (Or.inl hq), fun s h1 h2 a ha c hc => ?_, fun j hj => by rw [t4 j (by omega), r2 53 j (Or.inr (by omega))]⟩
    · have hfill : Ja_fillI_goesWith r (((1 : Int32) <<< (nI (cW + 1) &&& 31)) - 1) D1 E = some (none, D2, E) := by
        rw [e_Ja_fillI_goesWith, if_pos (by omega)]
        exact r1
      rw [e_Se_begin_141, e8]
      simp (disch := omega) only [sC, sN, sN0, sLL, sTT, sEE, sM1, sF, sGt, sLe, sLt, sNe, or_false, or_true, false_or, true_or, or_self, if_true, if_false, not_true_eq_false, not_false_eq_true, B1s, B0s, B2s, cl16, cn16, ct16, cu16, ce16, cf16, hfill, ca1]
      exact t1
    · by_cases e : s = r
      · subst e
        rw [t4 (s + 1) (by omega), r3 a (by omega) ha, full_b _ (by omega) _ hc]
      · exact t3 s (by omega) h2 a ha c hc
/-- begin -/
theorem X_begin {cN cW cP cT cH : Nat} {D : pD} {E : pDL} (hB : iBook cN cW cP cT cH D) (x : Int32) (hl : (pl x cP).length ≤ 4) : ∃ D2, Se_begin x D E = some (none, D2, E) ∧ bgI D D2 cW x cP ∧ ∀ s, s < 16 → ∀ a, a < 21 → ∀ c, c < 32 → bt (D2 53 (s + 1) a) c = decide (c < cW + 1) := by
  have n2 := hB.1.1.2.1
  have a2 := hB.1.2.1.2.1
  obtain ⟨D1, r1, r2⟩ := X_bg28 (E := E) hB x hl cP 0 (dset (dset (dset D 50 0 9 16777216) 50 0 8 (nI (cW + 1))) 50 0 7 0) (by omega) (by
    refine ⟨((Ko.rf.set (by decide) _ _ _).set (by decide) _ _ _).set (by decide) _ _ _, ?_, ?_, ?_, fun k hk => absurd hk (by rw [pl_0]; exact Nat.not_lt_zero _)⟩
    · rw [dsA, if_pos rfl, pl_0]
      rfl
    · rw [dsA, if_neg (by decide), dsA, if_pos rfl]
    · rw [dsA, if_neg (by decide), dsA, if_neg (by decide), dsA, if_pos rfl]
      rfl)
  obtain ⟨D2, t1, t2, t3, -⟩ := X_bg141 n2 (E := E) 16 0 D1 (by omega) r2.2.2.1
  refine ⟨D2, ?_, ?_, fun s hs => t3 s (by omega) hs⟩
  · rw [e_Se_begin, a2, ca1]
    exact r1.trans t1
  · obtain ⟨h1, h2, h3, h4, h5⟩ := r2
    refine ⟨fun k hk => ?_, by rw [t2 50 (by decide)]; exact h2, by rw [t2 50 (by decide)]; exact h3, by rw [t2 50 (by decide)]; exact h4, ?_⟩
    · rw [t2 k (fun z => hk (by rw [z]; decide)), h1 k hk]
    · rw [t2 51 (by decide), t2 52 (by decide), t2 54 (by decide)]
      exact h5

/-! THE TEXT: sets, numbers, names -/
def XB (T : Nat → Int32) (n : Nat) (D : pD) : Prop := D 2 0 = T ∧ D 17 0 6 = 1 ∧ D 17 0 7 = nI n
def MB (T : Nat → Int32) (n : Nat) (D : pD) : Prop := D 100 0 2 = nI n ∧ ∀ i, i < n → D 101 0 i = T i
/-- the class's reader has gone on: to e; the fields xs besides -/
def xG (D D' : pD) (e : Nat) (xs : List Nat) : Prop := Ko [17] D D' ∧ D' 17 0 9 = nI e ∧ ∀ i, i ∉ [8, 9, 10] → i ∉ xs → D' 17 0 i = D 17 0 i
/-- the class's reader has refused -/
def xF (D D' : pD) (f s : Nat) : Prop := Ko [17] D D' ∧ D' 17 0 4 = nI f ∧ D' 17 0 5 = nI s
theorem XB.g {T : Nat → Int32} {n : Nat} {D D' : pD} {e : Nat} {xs : List Nat} (h : XB T n D) (hg : xG D D' e xs) (h6 : 6 ∉ xs) (h7 : 7 ∉ xs) : XB T n D' := ⟨by rw [hg.1 2 (by decide)]; exact h.1, by rw [hg.2.2 6 (by decide) h6]; exact h.2.1, by rw [hg.2.2 7 (by decide) h7]; exact h.2.2⟩
theorem X_adv' {T : Nat → Int32} {n q s e c : Nat} {D : pD} {E : pDL} (hn : n ≤ 1200) (h : XB T n D) (h9 : D 17 0 9 = nI q) (ht : Tok T n q s e c) : ∃ D', Re_advance D E = some (none, D', E) ∧ xG D D' e [] ∧ D' 17 0 8 = nI s ∧ D' 17 0 10 = chT c := by
  obtain ⟨D', a1, a2, a3, a4, a5, a6⟩ := X_adv (E := E) hn h.1 h.2.1 h.2.2 h9 ht
  refine ⟨D', a1, ⟨a2, a4, fun i hi _ => ?_⟩, a3, a5⟩
  simp only [List.mem_cons, List.not_mem_nil, or_false, not_or] at hi
  exact a6 i hi.1 hi.2.1 hi.2.2
theorem X_ref {D : pD} {E : pDL} {s : Nat} (f : Nat) (h8 : D 17 0 8 = nI s) : ∃ D', Re_refuse (nI f) D E = some (some (.inl 0), D', E) ∧ xF D D' f s := by
  refine ⟨_, by rw [e_Re_refuse], (Ko.rf.set (by decide) _ _ _).set (by decide) _ _ _, ?_, ?_⟩
  · rw [dsA, if_neg (by decide), dsA, if_pos rfl]
  · rw [dsA, if_pos rfl, h8]
/-- the reference has refused -/
def mF (D D' : pD) (f s : Nat) : Prop := Ko [100] D D' ∧ (∀ i, i ≠ 8 → i ≠ 9 → D' 100 0 i = D 100 0 i) ∧ D' 100 0 8 = nI f ∧ D' 100 0 9 = nI s
theorem M_fail {D : pD} {E : pDL} {s : Nat} (f : Nat) (h5 : D 100 0 5 = nI s) : ∃ D', Mo_fails (nI f) D E = some (some (.inl 0), D', E) ∧ mF D D' f s := by
  refine ⟨_, by rw [e_Mo_fails], (Ko.rf.set (by decide) _ _ _).set (by decide) _ _ _, fun i h1 h2 => ?_, ?_, ?_⟩
  · rw [dsA, if_neg h2, dsA, if_neg h1]
  · rw [dsA, if_neg (by decide), dsA, if_pos rfl]
  · rw [dsA, if_pos rfl, h5]
/-- the reference has gone on: xs besides -/
def mG (D D' : pD) (E E' : pDL) (xs : List Nat) : Prop := Ko [100] D D' ∧ (∀ i, i ∉ [3, 4, 5, 6, 7] → i ∉ xs → D' 100 0 i = D 100 0 i) ∧ ∀ k, k ≠ 100 → E' k = E k
theorem MB.g {T : Nat → Int32} {n : Nat} {D D' : pD} {E E' : pDL} {xs : List Nat} (h : MB T n D) (hg : mG D D' E E' xs) (h2 : 2 ∉ xs) : MB T n D' := ⟨by rw [hg.2.1 2 (by decide) h2]; exact h.1, fun i hi => by rw [hg.1.c (by decide)]; exact h.2 i hi⟩
theorem M_scan' {T : Nat → Int32} {n q s e c : Nat} {D : pD} {E : pDL} (hn : n ≤ 1200) (h8 : ∀ i, i < n → (T i).toInt8.toInt32 = T i) (h : MB T n D) (h6 : D 100 0 6 = nI q) (ht : Tok T n q s e c) : ∃ D' E', Mo_scan D E = some (none, D', E') ∧ mG D D' E E' [] ∧ lxM D' E' T s e c := by
  obtain ⟨D', E', a1, a2, a3, a4, a5⟩ := M_scan (E := E) hn h8 h.1 h.2 h6 ht
  exact ⟨D', E', a1, ⟨a2, fun i hi _ => a3 i hi, a4⟩, a5⟩
/-! sets -/
def setv (T : Nat → Int32) (s : Nat) : Nat → Int32
  | 0 => 0
  | k + 1 => setv T s k ||| ((1 : Int32) <<< ((T (s + k) - 97) &&& 31))
theorem setv_w {T : Nat → Int32} {s : Nat} : ∀ k, (∀ i, i < k → ltr (T (s + i)) ∧ T (s + i) ≤ 120) → w24 (setv T s k)
  | 0, _ => fun i _ => b_0 i
  | k + 1, h => by
    obtain ⟨h1, h2⟩ := h k (by omega)
    obtain ⟨d, d1, d2, e⟩ := ltr_of h1
    rw [e, cn120 (by omega)] at h2
    rw [setv, e, cs97 d1]
    exact w24_or (setv_w k (fun i hi => h i (by omega))) (w24_one (by omega))
theorem w24_nn {x : Int32} (h : w24 x) : ∃ m : Nat, m < 16777216 ∧ x = nI m := by
  obtain ⟨n, hn, e, e2⟩ := of_nI x
  refine ⟨n, ?_, e⟩
  rw [← e2]
  exact Nat.lt_pow_two_of_testBit _ (fun i hi => h i hi) (n := 24)
def SetOk (T : Nat → Int32) (s e c : Nat) (v : Int32) : Prop := (c = 4 ∧ v = 0) ∨ (c = 1 ∧ (∀ i, s ≤ i → i < e → T i ≤ 120) ∧ v = setv T s (e - s))
def SetBad (T : Nat → Int32) (s e c f : Nat) : Prop := (c = 1 ∧ f = 2 ∧ ∃ i, s ≤ i ∧ i < e ∧ ¬ T i ≤ 120 ∧ ∀ j, s ≤ j → j < i → T j ≤ 120) ∨ (c ≠ 4 ∧ c ≠ 1 ∧ f = 1)
theorem first_bad {Q : Nat → Prop} {s e : Nat} (h : ¬ ∀ i, s ≤ i → i < e → Q i) : ∃ i, s ≤ i ∧ i < e ∧ ¬ Q i ∧ ∀ j, s ≤ j → j < i → Q j := by
  apply Classical.byContradiction
  intro z
  apply h
  intro i
  induction i using Nat.strongRecOn with
  | ind i ih =>
    intro h1 h2
    apply Classical.byContradiction
    intro q
    exact z ⟨i, h1, h2, q, fun j j1 j2 => ih j j2 j1 (by omega)⟩
theorem set_di (T : Nat → Int32) (s e c : Nat) : (∃ v, SetOk T s e c v) ∨ ∃ f, SetBad T s e c f := by
  by_cases c4 : c = 4
  · exact Or.inl ⟨0, Or.inl ⟨c4, rfl⟩⟩
  · by_cases c1 : c = 1
    · by_cases h : ∀ i, s ≤ i → i < e → T i ≤ 120
      · exact Or.inl ⟨_, Or.inr ⟨c1, h, rfl⟩⟩
      · exact Or.inr ⟨2, Or.inl ⟨c1, rfl, first_bad h⟩⟩
    · exact Or.inr ⟨1, Or.inr ⟨c4, c1, rfl⟩⟩
/-- a word's token -/
theorem Tok.wd {T : Nat → Int32} {n q s e c : Nat} (h : Tok T n q s e c) (hc : c = 1) : Wd T n s e ∧ s < e := by
  obtain ⟨-, h3⟩ := h
  rcases h3 with ⟨a1, a2, a3⟩ | ⟨a1, a2, ⟨b1, b2, b3, b4⟩, a5⟩ | ⟨a1, a2, a3, a5⟩ | ⟨a1, a2, a3, a4, a5⟩
  · omega
  · rw [hc] at a5
    have h24 : e - s ≤ 24 := Classical.byContradiction fun z => by rw [if_neg z] at a5; omega
    refine ⟨⟨b1, b2, h24, b3⟩, ?_⟩
    rcases Nat.lt_or_ge s e with z | z
    · exact z
    · have : e = s := by omega
      rw [this] at b4
      exact absurd a2 (b4 a1)
  · rw [hc] at a5
    split at a5 <;> omega
  · rw [hc] at a5
    split at a5
    · omega
    · split at a5 <;> omega
theorem Tok.nm {T : Nat → Int32} {n q s e c : Nat} (h : Tok T n q s e c) (hc : c = 2) : s ≤ e ∧ e ≤ n ∧ e - s ≤ 3 ∧ ∀ i, s ≤ i → i < e → dgt (T i) := by
  obtain ⟨-, h3⟩ := h
  rcases h3 with ⟨a1, a2, a3⟩ | ⟨a1, a2, a3, a5⟩ | ⟨a1, a2, ⟨b1, b2, b3, b4⟩, a5⟩ | ⟨a1, a2, a3, a4, a5⟩
  · omega
  · rw [hc] at a5
    split at a5 <;> omega
  · rw [hc] at a5
    have h3 : e - s ≤ 3 := Classical.byContradiction fun z => by rw [if_neg z] at a5; omega
    exact ⟨b1, b2, h3, b3⟩
  · rw [hc] at a5
    split at a5
    · omega
    · split at a5 <;> omega
theorem X_set_loop {T : Nat → Int32} {n s e : Nat} {D : pD} {E : pDL} (hn : n ≤ 1200) (h : XB T n D) (hw : Wd T n s e) (h9 : D 17 0 9 = nI e) {m : Nat} (hm : s ≤ m) (hme : m ≤ e) (hx : ∀ i, s ≤ i → i < m → T i ≤ 120) : Re_readSet_40 (nI s) (dset D 17 0 11 0) E = Re_readSet_40 (nI m) (dset D 17 0 11 (setv T s (m - s))) E := by
  have st : dset D 17 0 11 0 = dset D 17 0 11 (setv T s (s - s)) := by
    rw [Nat.sub_self]
    rfl
  rw [st]
  refine zto (fun i => Re_readSet_40 (nI i) (dset D 17 0 11 (setv T s (i - s))) E) s m hm (fun i h1 h2 => ?_)
  show Re_readSet_40 _ _ _ = Re_readSet_40 _ _ _
  have hl := hw.2.2.2 i h1 (by omega)
  have hen := hw.2.1
  obtain ⟨d, d1, d2, ed⟩ := ltr_of hl
  have hx' := hx i h1 h2
  rw [ed, cn120 (by omega)] at hx'
  have g9 : dset D 17 0 11 (setv T s (i - s)) 17 0 9 = nI e := by rw [dsA, if_neg (by decide), h9]
  have g6 : dset D 17 0 11 (setv T s (i - s)) 17 0 6 = 1 := by rw [dsA, if_neg (by decide), h.2.1]
  have g2 : dset D 17 0 11 (setv T s (i - s)) 2 0 = T := by rw [dsN (by decide), h.1]
  have g11 : dset D 17 0 11 (setv T s (i - s)) 17 0 11 = setv T s (i - s) := by rw [dsA, if_pos rfl]
  have es : setv T s (i + 1 - s) = setv T s (i - s) ||| ((1 : Int32) <<< (nI (d - 97) &&& 31)) := by
    rw [show i + 1 - s = (i - s) + 1 by omega, setv, show s + (i - s) = i by omega, ed, cs97 d1]
  rw [e_Re_readSet_40, g9, g6, g2, g11, es]
  simp (disch := omega) only [sC, sN, sN0, sLL, sTT, sEE, sM1, sF, sGt, sLe, sLt, sNe, or_false, or_true, false_or, true_or, or_self, if_true, if_false, not_true_eq_false, not_false_eq_true, B1s, B0s, B2s, ed, cs97, cl24, cn24, ct24, cu24, ce24, cf24, ca1, dset_dset]
theorem X_set_ok {T : Nat → Int32} {n q s e c : Nat} {D : pD} {E : pDL} (hn : n ≤ 1200) (h : XB T n D) (h9 : D 17 0 9 = nI q) (ht : Tok T n q s e c) {v : Int32} (hs : SetOk T s e c v) : ∃ D', Re_readSet D E = some (some (.inl 1), D', E) ∧ xG D D' e [11] ∧ D' 17 0 11 = v ∧ D' 17 0 8 = nI s := by
  obtain ⟨D1, a1, a2, a3, a4⟩ := X_adv' (E := E) hn h h9 ht
  have hB1 := h.g a2 (by decide) (by decide)
  have fin : ∀ v, xG D (dset D1 17 0 11 v) e [11] ∧ dset D1 17 0 11 v 17 0 11 = v ∧ dset D1 17 0 11 v 17 0 8 = nI s := by
    intro v
    refine ⟨⟨a2.1.set (by decide) _ _ _, by rw [dsA, if_neg (by decide), a2.2.1], fun i i1 i2 => ?_⟩, by rw [dsA, if_pos rfl], by rw [dsA, if_neg (by decide), a3]⟩
    simp only [List.mem_cons, List.not_mem_nil, or_false] at i2
    rw [dsA, if_neg i2, a2.2.2 i i1 (by simp)]
  rcases hs with ⟨hc, rfl⟩ | ⟨hc, hx, rfl⟩
  · refine ⟨dset D1 17 0 11 0, ?_, fin 0⟩
    rw [e_Re_readSet, a1, B0s, a4, hc, if_pos (by decide)]
  · obtain ⟨hw, hse⟩ := ht.wd hc
    have hen := hw.2.1
    refine ⟨dset D1 17 0 11 (setv T s (e - s)), ?_, fin _⟩
    have g9 : dset D1 17 0 11 (setv T s (e - s)) 17 0 9 = nI e := by rw [dsA, if_neg (by decide), a2.2.1]
    rw [e_Re_readSet, a1, B0s, a4, hc, if_neg (by decide), if_pos (by decide), a3, X_set_loop hn hB1 hw a2.2.1 hw.1 (Nat.le_refl _) hx, e_Re_readSet_40, g9, if_pos (nI_le (Nat.le_refl _) (by omega))]
theorem X_set_bad {T : Nat → Int32} {n q s e c : Nat} {D : pD} {E : pDL} (hn : n ≤ 1200) (h : XB T n D) (h9 : D 17 0 9 = nI q) (ht : Tok T n q s e c) {f : Nat} (hs : SetBad T s e c f) : ∃ D', Re_readSet D E = some (some (.inl 0), D', E) ∧ xF D D' f s := by
  obtain ⟨D1, a1, a2, a3, a4⟩ := X_adv' (E := E) hn h h9 ht
  have hB1 := h.g a2 (by decide) (by decide)
  have hc5 := ht.le.2.2.2
  rcases hs with ⟨hc, rfl, i, i1, i2, i3, i4⟩ | ⟨c4, c1, rfl⟩
  · obtain ⟨hw, hse⟩ := ht.wd hc
    have hen := hw.2.1
    obtain ⟨d, d1, d2, ed⟩ := ltr_of (hw.2.2.2 i i1 i2)
    have i3' := i3
    rw [ed, cn120 (by omega)] at i3'
    obtain ⟨D2, r1, r2⟩ := X_ref (E := E) (D := dset D1 17 0 11 (setv T s (i - s))) 2 (s := s) (by rw [dsA, if_neg (by decide), a3])
    refine ⟨D2, ?_, (a2.1.set (by decide) _ _ _).tr r2.1, r2.2⟩
    have g9 : dset D1 17 0 11 (setv T s (i - s)) 17 0 9 = nI e := by rw [dsA, if_neg (by decide), a2.2.1]
    have g6 : dset D1 17 0 11 (setv T s (i - s)) 17 0 6 = 1 := by rw [dsA, if_neg (by decide), hB1.2.1]
    have g2 : dset D1 17 0 11 (setv T s (i - s)) 2 0 = T := by rw [dsN (by decide), hB1.1]
    rw [e_Re_readSet, a1, B0s, a4, hc, if_neg (by decide), if_pos (by decide), a3, X_set_loop hn hB1 hw a2.2.1 i1 (by omega) i4, e_Re_readSet_40, g9, g6, g2]
    simp (disch := omega) only [sC, sN, sN0, sLL, sTT, sEE, sM1, sF, sGt, sLe, sLt, sNe, or_false, or_true, false_or, true_or, or_self, if_true, if_false, not_true_eq_false, not_false_eq_true, B1s, B0s, B2s, ed, cs97, cl24, cn24, ct24, cu24, ce24, cf24]
    rw [show Re_refuse 2 _ E = _ from r1, B1s, if_pos and_00]
  · obtain ⟨D2, r1, r2⟩ := X_ref (E := E) (D := dset D1 17 0 11 0) 1 (s := s) (by rw [dsA, if_neg (by decide), a3])
    refine ⟨D2, ?_, (a2.1.set (by decide) _ _ _).tr r2.1, r2.2⟩
    have n45 : ¬ chT c = 45 := by
      have : c = 0 ∨ c = 2 ∨ c = 3 ∨ c = 5 := by omega
      rcases this with rfl | rfl | rfl | rfl <;> decide
    have n97 : ¬ chT c = 97 := by
      have : c = 0 ∨ c = 2 ∨ c = 3 ∨ c = 5 := by omega
      rcases this with rfl | rfl | rfl | rfl <;> decide
    rw [e_Re_readSet, a1, B0s, a4, if_neg n45, if_neg n97, show Re_refuse 1 _ E = _ from r1, B1s, if_pos and_00]
theorem M_set_loop {T : Nat → Int32} {n s e : Nat} {D : pD} {E : pDL} (hn : n ≤ 1200) (h8 : ∀ i, i < n → (T i).toInt8.toInt32 = T i) (h : MB T n D) (hw : Wd T n s e) (h6 : D 100 0 6 = nI e) {m : Nat} (hm : s ≤ m) (hme : m ≤ e) (hx : ∀ i, s ≤ i → i < m → T i ≤ 120) : Mo_setHere_39 0 (nI s) D E = Mo_setHere_39 (setv T s (m - s)) (nI m) D E := by
  have st : Mo_setHere_39 0 (nI s) D E = Mo_setHere_39 (setv T s (s - s)) (nI s) D E := by
    rw [Nat.sub_self]
    rfl
  rw [st]
  refine zto (fun i => Mo_setHere_39 (setv T s (i - s)) (nI i) D E) s m hm (fun i h1 h2 => ?_)
  show Mo_setHere_39 _ _ _ _ = Mo_setHere_39 _ _ _ _
  have hl := hw.2.2.2 i h1 (by omega)
  have hen := hw.2.1
  obtain ⟨d, d1, d2, ed⟩ := ltr_of hl
  have hx' := hx i h1 h2
  rw [ed, cn120 (by omega)] at hx'
  have see := M_see (E := E) hn h.1 h.2 (show i < n by omega)
  have e255 : T i &&& 255 = nI d := by
    rw [eq_s (h8 i (by omega)) (by omega)]
    exact ed
  rw [e255] at see
  rw [e_Mo_setHere_39, h6, show i + 1 - s = (i - s) + 1 by omega, setv, show s + (i - s) = i by omega, ed]
  simp (disch := omega) only [sC, sN, sN0, sLL, sTT, sEE, sM1, sF, sGt, sLe, sLt, sNe, or_false, or_true, false_or, true_or, or_self, if_true, if_false, not_true_eq_false, not_false_eq_true, B1s, B0s, B2s, see, cs97, cl120, cn120, ct120, cu120, ce120, cf120, ca1]
theorem M_set_ok {T : Nat → Int32} {n q s e c : Nat} {D : pD} {E : pDL} (hn : n ≤ 1200) (h8 : ∀ i, i < n → (T i).toInt8.toInt32 = T i) (h : MB T n D) (ht : Tok T n q s e c) (hl : lxM D E T s e c) {v : Int32} (hs : SetOk T s e c v) : Mo_setHere D E = some (some (.inl v), D, E) ∧ ¬ v < 0 := by
  obtain ⟨l1, l2, l3, l4, l5⟩ := hl
  rcases hs with ⟨hc, rfl⟩ | ⟨hc, hx, rfl⟩
  · rw [e_Mo_setHere, l3, hc, if_pos (by decide)]
    exact ⟨rfl, by decide⟩
  · obtain ⟨hw, hse⟩ := ht.wd hc
    have hen := hw.2.1
    rw [e_Mo_setHere, l3, hc, if_neg (by decide), if_pos (by decide), l1, M_set_loop hn h8 h hw l2 hw.1 (Nat.le_refl _) hx, e_Mo_setHere_39, l2, if_pos (nI_le (Nat.le_refl _) (by omega))]
    refine ⟨rfl, ?_⟩
    obtain ⟨m, hm, e⟩ := w24_nn (setv_w (T := T) (s := s) (e - s) (fun i hi => ⟨hw.2.2.2 _ (by omega) (by omega), hx _ (by omega) (by omega)⟩))
    rw [e]
    exact iN (by omega)
theorem M_set_bad {T : Nat → Int32} {n q s e c : Nat} {D : pD} {E : pDL} (hn : n ≤ 1200) (h8 : ∀ i, i < n → (T i).toInt8.toInt32 = T i) (h : MB T n D) (ht : Tok T n q s e c) (hl : lxM D E T s e c) {f : Nat} (hs : SetBad T s e c f) : ∃ D', Mo_setHere D E = some (some (.inl (-1)), D', E) ∧ mF D D' f s := by
  obtain ⟨l1, l2, l3, l4, l5⟩ := hl
  have hc5 := ht.le.2.2.2
  rcases hs with ⟨hc, rfl, i, i1, i2, i3, i4⟩ | ⟨c4, c1, rfl⟩
  · obtain ⟨hw, hse⟩ := ht.wd hc
    have hen := hw.2.1
    obtain ⟨d, d1, d2, ed⟩ := ltr_of (hw.2.2.2 i i1 i2)
    have i3' := i3
    rw [ed, cn120 (by omega)] at i3'
    have see := M_see (E := E) hn h.1 h.2 (show i < n by omega)
    have e255 : T i &&& 255 = nI d := by
      rw [eq_s (h8 i (by omega)) (by omega)]
      exact ed
    rw [e255] at see
    obtain ⟨D2, r1, r2⟩ := M_fail (E := E) (D := D) 2 l1
    refine ⟨D2, ?_, r2⟩
    rw [e_Mo_setHere, l3, hc, if_neg (by decide), if_pos (by decide), l1, M_set_loop hn h8 h hw l2 i1 (by omega) i4, e_Mo_setHere_39, l2]
    simp (disch := omega) only [sC, sN, sN0, sLL, sTT, sEE, sM1, sF, sGt, sLe, sLt, sNe, or_false, or_true, false_or, true_or, or_self, if_true, if_false, not_true_eq_false, not_false_eq_true, B1s, B0s, B2s, see, cl120, cn120, ct120, cu120, ce120, cf120]
    rw [show Mo_fails 2 _ E = _ from r1, B1s, if_pos rfl]
  · obtain ⟨D2, r1, r2⟩ := M_fail (E := E) (D := D) 1 l1
    refine ⟨D2, ?_, r2⟩
    rw [e_Mo_setHere, l3, if_neg (show ¬ nI c = (4 : Int32) from fun z => c4 ((iE (b := 4) (by omega) (by omega)).mp z)), if_neg (show ¬ nI c = (1 : Int32) from fun z => c1 ((iE (b := 1) (by omega) (by omega)).mp z)), show Mo_fails 1 _ E = _ from r1, B1s, if_pos rfl]
/-! numbers -/
def NumOk (T : Nat → Int32) (s e c lo H v : Nat) : Prop := c = 2 ∧ v = nv T s (e - s) ∧ lo ≤ v ∧ v < H
def NumBad (T : Nat → Int32) (s e c lo H f : Nat) : Prop := (c = 2 ∧ f = 2 ∧ (nv T s (e - s) < lo ∨ H ≤ nv T s (e - s))) ∨ (c ≠ 2 ∧ f = 1)
theorem num_di (T : Nat → Int32) (s e c lo H : Nat) : (∃ v, NumOk T s e c lo H v) ∨ ∃ f, NumBad T s e c lo H f := by
  by_cases c2 : c = 2
  · by_cases h : lo ≤ nv T s (e - s) ∧ nv T s (e - s) < H
    · exact Or.inl ⟨_, c2, rfl, h.1, h.2⟩
    · exact Or.inr ⟨2, Or.inl ⟨c2, rfl, by omega⟩⟩
  · exact Or.inr ⟨1, Or.inr ⟨c2, rfl⟩⟩
theorem nv_1000 {T : Nat → Int32} {n q s e c : Nat} (ht : Tok T n q s e c) (hc : c = 2) : nv T s (e - s) < 1000 := by
  obtain ⟨a1, a2, a3, a4⟩ := ht.nm hc
  have := nv_lt (T := T) (s := s) (e - s) (fun i hi => a4 _ (by omega) (by omega))
  have p : 10 ^ (e - s) ≤ 10 ^ 3 := Nat.pow_le_pow_right (by decide) a3
  omega
theorem hi_le {v H : Nat} (hv : v < 2147483648) (hH : H < 2147483648) : (nI v ≤ nI H - 1) = (v < H) := by
  cases H with
  | zero =>
    apply propext
    rw [show nI 0 - 1 = -1 by decide, Int32.le_iff_toInt_le, nI_toInt hv]
    have : (-1 : Int32).toInt = -1 := by decide
    omega
  | succ H =>
    rw [nI_pred, sLL hv (by omega)]
    apply propext
    omega
theorem X_num_loop {T : Nat → Int32} {n s e : Nat} {D : pD} {E : pDL} (hn : n ≤ 1200) (h : XB T n D) (hse : s ≤ e) (hen : e ≤ n) (hd : ∀ i, s ≤ i → i < e → dgt (T i)) (h9 : D 17 0 9 = nI e) (x1 x2 : Int32) : Re_readNumber_29 x1 x2 (nI s) (dset D 17 0 12 0) E = Re_readNumber_29 x1 x2 (nI e) (dset D 17 0 12 (nI (nv T s (e - s)))) E := by
  have st : dset D 17 0 12 0 = dset D 17 0 12 (nI (nv T s (s - s))) := by
    rw [Nat.sub_self]
    rfl
  rw [st]
  refine zto (fun i => Re_readNumber_29 x1 x2 (nI i) (dset D 17 0 12 (nI (nv T s (i - s)))) E) s e hse (fun i h1 h2 => ?_)
  show Re_readNumber_29 _ _ _ _ _ = Re_readNumber_29 _ _ _ _ _
  obtain ⟨d, d1, d2, ed⟩ := dgt_of (hd i h1 h2)
  have g9 : dset D 17 0 12 (nI (nv T s (i - s))) 17 0 9 = nI e := by rw [dsA, if_neg (by decide), h9]
  have g6 : dset D 17 0 12 (nI (nv T s (i - s))) 17 0 6 = 1 := by rw [dsA, if_neg (by decide), h.2.1]
  have g2 : dset D 17 0 12 (nI (nv T s (i - s))) 2 0 = T := by rw [dsN (by decide), h.1]
  have g12 : dset D 17 0 12 (nI (nv T s (i - s))) 17 0 12 = nI (nv T s (i - s)) := by rw [dsA, if_pos rfl]
  have es : nv T s (i + 1 - s) = nv T s (i - s) * 10 + d - 48 := by
    rw [show i + 1 - s = (i - s) + 1 by omega, nv, show s + (i - s) = i by omega, ed, iC (by omega)]
    omega
  rw [e_Re_readNumber_29, g9, g6, g2, g12, es]
  rw [if_neg (nI_ge h2 (by omega)), if_pos rfl, if_neg (iB (by omega) (by omega)), iC (by omega), ed, show nI (nv T s (i - s)) * 10 = nI (nv T s (i - s) * 10) from pk_mul _ 10, nI_add, cs48 (by omega), ca1, dset_dset]
theorem X_num_ok {T : Nat → Int32} {n q s e c lo H : Nat} {D : pD} {E : pDL} (hn : n ≤ 1200) (h : XB T n D) (h9 : D 17 0 9 = nI q) (ht : Tok T n q s e c) {v : Nat} (hH : H < 2147483648) (hlo : lo < 2147483648) (hs : NumOk T s e c lo H v) : ∃ D', Re_readNumber (nI lo) (nI H - 1) D E = some (some (.inl 1), D', E) ∧ xG D D' e [12] ∧ D' 17 0 12 = nI v ∧ D' 17 0 8 = nI s := by
  obtain ⟨D1, a1, a2, a3, a4⟩ := X_adv' (E := E) hn h h9 ht
  have hB1 := h.g a2 (by decide) (by decide)
  obtain ⟨hc, rfl, v1, v2⟩ := hs
  obtain ⟨b1, b2, b3, b4⟩ := ht.nm hc
  have hv := nv_1000 ht hc
  have g9 : dset D1 17 0 12 (nI (nv T s (e - s))) 17 0 9 = nI e := by rw [dsA, if_neg (by decide), a2.2.1]
  have g12 : dset D1 17 0 12 (nI (nv T s (e - s))) 17 0 12 = nI (nv T s (e - s)) := by rw [dsA, if_pos rfl]
  refine ⟨dset D1 17 0 12 (nI (nv T s (e - s))), ?_, ⟨a2.1.set (by decide) _ _ _, by rw [dsA, if_neg (by decide), a2.2.1], fun i i1 i2 => ?_⟩, by rw [dsA, if_pos rfl], by rw [dsA, if_neg (by decide), a3]⟩
  · rw [e_Re_readNumber, a1, B0s, a4, hc, if_pos (by decide), a3, X_num_loop hn hB1 b1 b2 b4 a2.2.1, e_Re_readNumber_29, g9, if_pos (nI_le (Nat.le_refl _) (by omega)), g12, if_neg (nI_nlt v1 (by omega)), if_pos (by rw [hi_le (by omega) hH]; exact v2)]
  · simp only [List.mem_cons, List.not_mem_nil, or_false] at i2
    rw [dsA, if_neg i2, a2.2.2 i i1 (by simp)]
theorem X_num_bad {T : Nat → Int32} {n q s e c lo H : Nat} {D : pD} {E : pDL} (hn : n ≤ 1200) (h : XB T n D) (h9 : D 17 0 9 = nI q) (ht : Tok T n q s e c) {f : Nat} (hH : H < 2147483648) (hlo : lo < 2147483648) (hs : NumBad T s e c lo H f) : ∃ D', Re_readNumber (nI lo) (nI H - 1) D E = some (some (.inl 0), D', E) ∧ xF D D' f s := by
  obtain ⟨D1, a1, a2, a3, a4⟩ := X_adv' (E := E) hn h h9 ht
  have hB1 := h.g a2 (by decide) (by decide)
  have hc5 := ht.le.2.2.2
  rcases hs with ⟨hc, rfl, hv⟩ | ⟨c2, rfl⟩
  · obtain ⟨b1, b2, b3, b4⟩ := ht.nm hc
    have hv' := nv_1000 ht hc
    have g9 : dset D1 17 0 12 (nI (nv T s (e - s))) 17 0 9 = nI e := by rw [dsA, if_neg (by decide), a2.2.1]
    have g12 : dset D1 17 0 12 (nI (nv T s (e - s))) 17 0 12 = nI (nv T s (e - s)) := by rw [dsA, if_pos rfl]
    obtain ⟨D2, r1, r2⟩ := X_ref (E := E) (D := dset D1 17 0 12 (nI (nv T s (e - s)))) 2 (s := s) (by rw [dsA, if_neg (by decide), a3])
    refine ⟨D2, ?_, (a2.1.set (by decide) _ _ _).tr r2.1, r2.2⟩
    rw [e_Re_readNumber, a1, B0s, a4, hc, if_pos (by decide), a3, X_num_loop hn hB1 b1 b2 b4 a2.2.1, e_Re_readNumber_29, g9, if_pos (nI_le (Nat.le_refl _) (by omega)), g12]
    by_cases cl : nv T s (e - s) < lo
    · rw [if_pos (nI_lt cl (by omega)), show Re_refuse 2 _ E = _ from r1, B1s, if_pos rfl]
    · rw [if_neg (nI_nlt (by omega) (by omega)), if_neg (by rw [hi_le (by omega) hH]; omega), show Re_refuse 2 _ E = _ from r1, B1s, if_pos rfl]
  · obtain ⟨D2, r1, r2⟩ := X_ref (E := E) (D := dset D1 17 0 12 0) 1 (s := s) (by rw [dsA, if_neg (by decide), a3])
    refine ⟨D2, ?_, (a2.1.set (by decide) _ _ _).tr r2.1, r2.2⟩
    have n48 : ¬ chT c = 48 := by
      have : c = 0 ∨ c = 1 ∨ c = 3 ∨ c = 4 ∨ c = 5 := by omega
      rcases this with rfl | rfl | rfl | rfl | rfl <;> decide
    rw [e_Re_readNumber, a1, B0s, a4, if_neg n48, show Re_refuse 1 _ E = _ from r1, B1s, if_pos and_00]
theorem M_in_ok {v lo H : Nat} (hv : v < 2147483648) (hH : H < 2147483648) (h1 : lo ≤ v) (h2 : v < H) (D : pD) (E : pDL) : Mo_in (nI v) (nI lo) (nI H - 1) D E = some (some (.inl 1), D, E) := by
  have h3 : ¬ nI H - 1 < nI v := by
    rw [← iNL, hi_le hv hH]
    exact h2
  rw [e_Mo_in, if_neg (nI_nlt h1 hv), if_neg h3]
theorem M_in_bad {v lo H : Nat} (hv : v < 2147483648) (hH : H < 2147483648) (hlo : lo < 2147483648) (h : v < lo ∨ H ≤ v) (D : pD) (E : pDL) : Mo_in (nI v) (nI lo) (nI H - 1) D E = some (some (.inl 0), D, E) := by
  rw [e_Mo_in]
  by_cases c : v < lo
  · rw [if_pos (nI_lt c hlo)]
  · have h3 : nI H - 1 < nI v := by
      rw [← Int32.not_le]
      rw [hi_le hv hH]
      omega
    rw [if_neg (nI_nlt (by omega) hv), if_pos h3]
/-! names -/
theorem lg0 (x y : Int64) : lg_cmp x y = 0 ↔ x = y := by
  unfold lg_cmp
  by_cases c : x > y
  · rw [if_pos c]
    constructor
    · intro z
      exact absurd z (by decide)
    · rintro rfl
      exact absurd c Int64.lt_irrefl
  · rw [if_neg c]
    by_cases c2 : x = y
    · rw [if_pos c2]
      exact ⟨fun _ => c2, fun _ => rfl⟩
    · rw [if_neg c2]
      exact ⟨fun z => absurd z (by decide), fun z => absurd z c2⟩
/-- names of both: B the class's cell, F where the reference's begin -/
def nmR (DX : pD) (EM : pDL) (T : Nat → Int32) (n B F cnt : Nat) : Prop := DX B 0 2 = nI cnt ∧ ∀ i, i < cnt → ∃ a b : Nat, DX (B + 1) 0 i = nI a ∧ DX (B + 2) 0 i = nI b ∧ Wd T n a b ∧ EM 103 (F + i) = lN (frn T a b) ∧ EM 104 (F + i) = lN (ren T a b)
/-- is it the i-th name -/
def nmS (DX : pD) (T : Nat → Int32) (B s e i : Nat) : Prop := (DX (B + 2) 0 i).toNatClampNeg - (DX (B + 1) 0 i).toNatClampNeg = e - s ∧ ∀ j, j < e - s → T ((DX (B + 1) 0 i).toNatClampNeg + j) = T (s + j)
theorem X_same {T : Nat → Int32} {n : Nat} {D : pD} {E : pDL} (hn : n ≤ 1200) (h2 : D 2 0 = T) {a s L : Nat} (ha : a + L ≤ n) (hs : s + L ≤ n) : (Na_isSame_tape_bytes (nI a) (nI s) (nI L) D E = some (some (.inl 1), D, E) ∧ ∀ j, j < L → T (a + j) = T (s + j)) ∨ (Na_isSame_tape_bytes (nI a) (nI s) (nI L) D E = some (some (.inl 0), D, E) ∧ ¬ ∀ j, j < L → T (a + j) = T (s + j)) := by
  rw [e_Na_isSame_tape_bytes]
  have loop : ∀ m i, i + m = L → (∀ j, j < i → T (a + j) = T (s + j)) → (Na_isSame_tape_bytes_3 (nI a) (nI s) (nI L) (nI i) D E = some (some (.inl 1), D, E) ∧ ∀ j, j < L → T (a + j) = T (s + j)) ∨ (Na_isSame_tape_bytes_3 (nI a) (nI s) (nI L) (nI i) D E = some (some (.inl 0), D, E) ∧ ¬ ∀ j, j < L → T (a + j) = T (s + j)) := by
    intro m
    induction m with
    | zero =>
      intro i hi hj
      obtain rfl : i = L := by omega
      exact Or.inl ⟨by rw [e_Na_isSame_tape_bytes_3, if_pos (nI_le (Nat.le_refl _) (by omega))], hj⟩
    | succ m ih =>
      intro i hi hj
      by_cases c : T (a + i) = T (s + i)
      · have st : Na_isSame_tape_bytes_3 (nI a) (nI s) (nI L) (nI i) D E = Na_isSame_tape_bytes_3 (nI a) (nI s) (nI L) (nI (i + 1)) D E := by
          rw [e_Na_isSame_tape_bytes_3, h2]
          simp (disch := omega) only [sC, sN, sN0, sLL, sTT, sEE, sM1, sF, sGt, sLe, sLt, sNe, or_false, or_true, false_or, true_or, or_self, if_true, if_false, not_true_eq_false, not_false_eq_true, B1s, B0s, B2s, nI_add, c, ca1]
        rw [st]
        exact ih (i + 1) (by omega) (fun j hj' => by
          by_cases z : j = i
          · rw [z]
            exact c
          · exact hj j (by omega))
      · refine Or.inr ⟨?_, fun z => c (z i (by omega))⟩
        rw [e_Na_isSame_tape_bytes_3, h2]
        simp (disch := omega) only [sC, sN, sN0, sLL, sTT, sEE, sM1, sF, sGt, sLe, sLt, sNe, or_false, or_true, false_or, true_or, or_self, if_true, if_false, not_true_eq_false, not_false_eq_true, B1s, B0s, B2s, nI_add, c]
  exact loop L 0 (by omega) (fun j hj => absurd hj (by omega))
theorem X_find_nn {T : Nat → Int32} {n F cnt s e : Nat} {D : pD} {E EM : pDL} (hn : n ≤ 1200) (h2 : D 2 0 = T) (hr : nmR D EM T n 32 F cnt) (hc : cnt ≤ 20) (hse : s ≤ e) (hen : e ≤ n) : (∃ i, i < cnt ∧ nmS D T 32 s e i ∧ (∀ j, j < i → ¬ nmS D T 32 s e j) ∧ Na_find_nn_tape_bytes (nI s) (nI e) D E = some (some (.inl (nI i)), D, E)) ∨ ((∀ i, i < cnt → ¬ nmS D T 32 s e i) ∧ Na_find_nn_tape_bytes (nI s) (nI e) D E = some (some (.inl (-1)), D, E)) := by
  obtain ⟨r1, r2⟩ := hr
  rw [e_Na_find_nn_tape_bytes]
  have loop : ∀ m k, k + m = cnt → (∀ j, j < k → ¬ nmS D T 32 s e j) → (∃ i, i < cnt ∧ nmS D T 32 s e i ∧ (∀ j, j < i → ¬ nmS D T 32 s e j) ∧ Na_find_nn_tape_bytes_3 (nI s) (nI e) (nI k) D E = some (some (.inl (nI i)), D, E)) ∨ ((∀ i, i < cnt → ¬ nmS D T 32 s e i) ∧ Na_find_nn_tape_bytes_3 (nI s) (nI e) (nI k) D E = some (some (.inl (-1)), D, E)) := by
    intro m
    induction m with
    | zero =>
      intro k hk hj
      obtain rfl : k = cnt := by omega
      exact Or.inr ⟨hj, by rw [e_Na_find_nn_tape_bytes_3, r1, if_pos (nI_le (Nat.le_refl _) (by omega))]⟩
    | succ m ih =>
      intro k hk hj
      obtain ⟨a, b, ea, eb, hw, -, -⟩ := r2 k (by omega)
      obtain ⟨w1, w2, w3, w4⟩ := hw
      simp only [Nat.reduceAdd] at ea eb
      have hnm : nmS D T 32 s e k ↔ b - a = e - s ∧ ∀ j, j < e - s → T (a + j) = T (s + j) := by
        unfold nmS
        simp only [Nat.reduceAdd]
        rw [ea, eb, iC (by omega), iC (by omega)]
      have hnx : ¬ nmS D T 32 s e k → ∀ j, j < k + 1 → ¬ nmS D T 32 s e j := fun hz j hj' => by
        by_cases z : j = k
        · rw [z]
          exact hz
        · exact hj j (by omega)
      by_cases c : b - a = e - s
      · rcases X_same (E := E) hn h2 (a := a) (s := s) (L := e - s) (by omega) (by omega) with ⟨q1, q2⟩ | ⟨q1, q2⟩
        · refine Or.inl ⟨k, by omega, hnm.mpr ⟨c, q2⟩, hj, ?_⟩
          rw [e_Na_find_nn_tape_bytes_3, r1]
          simp (disch := omega) only [sC, sN, sN0, sLL, sTT, sEE, sM1, sF, sGt, sLe, sLt, sNe, or_false, or_true, false_or, true_or, or_self, if_true, if_false, not_true_eq_false, not_false_eq_true, B1s, B0s, B2s, ea, eb, pk_sub, c, q1, h10]
        · have st : Na_find_nn_tape_bytes_3 (nI s) (nI e) (nI k) D E = Na_find_nn_tape_bytes_3 (nI s) (nI e) (nI (k + 1)) D E := by
            rw [e_Na_find_nn_tape_bytes_3, r1]
            simp (disch := omega) only [sC, sN, sN0, sLL, sTT, sEE, sM1, sF, sGt, sLe, sLt, sNe, or_false, or_true, false_or, true_or, or_self, if_true, if_false, not_true_eq_false, not_false_eq_true, B1s, B0s, B2s, ea, eb, pk_sub, c, q1, ca1]
          rw [st]
          exact ih (k + 1) (by omega) (hnx (fun z => q2 (hnm.mp z).2))
      · have st : Na_find_nn_tape_bytes_3 (nI s) (nI e) (nI k) D E = Na_find_nn_tape_bytes_3 (nI s) (nI e) (nI (k + 1)) D E := by
          rw [e_Na_find_nn_tape_bytes_3, r1]
          simp (disch := omega) only [sC, sN, sN0, sLL, sTT, sEE, sM1, sF, sGt, sLe, sLt, sNe, or_false, or_true, false_or, true_or, or_self, if_true, if_false, not_true_eq_false, not_false_eq_true, B1s, B0s, B2s, ea, eb, pk_sub, c, ca1]
        rw [st]
        exact ih (k + 1) (by omega) (hnx (fun z => c (hnm.mp z).1))
  exact loop cnt 0 (by omega) (fun j hj => absurd hj (by omega))
theorem X_find_nw {T : Nat → Int32} {n F cnt s e : Nat} {D : pD} {E EM : pDL} (hn : n ≤ 1200) (h2 : D 2 0 = T) (hr : nmR D EM T n 35 F cnt) (hc : cnt ≤ 20) (hse : s ≤ e) (hen : e ≤ n) : (∃ i, i < cnt ∧ nmS D T 35 s e i ∧ (∀ j, j < i → ¬ nmS D T 35 s e j) ∧ Na_find_nw_tape_bytes (nI s) (nI e) D E = some (some (.inl (nI i)), D, E)) ∨ ((∀ i, i < cnt → ¬ nmS D T 35 s e i) ∧ Na_find_nw_tape_bytes (nI s) (nI e) D E = some (some (.inl (-1)), D, E)) := by
  obtain ⟨r1, r2⟩ := hr
  rw [e_Na_find_nw_tape_bytes]
  have loop : ∀ m k, k + m = cnt → (∀ j, j < k → ¬ nmS D T 35 s e j) → (∃ i, i < cnt ∧ nmS D T 35 s e i ∧ (∀ j, j < i → ¬ nmS D T 35 s e j) ∧ Na_find_nw_tape_bytes_3 (nI s) (nI e) (nI k) D E = some (some (.inl (nI i)), D, E)) ∨ ((∀ i, i < cnt → ¬ nmS D T 35 s e i) ∧ Na_find_nw_tape_bytes_3 (nI s) (nI e) (nI k) D E = some (some (.inl (-1)), D, E)) := by
    intro m
    induction m with
    | zero =>
      intro k hk hj
      obtain rfl : k = cnt := by omega
      exact Or.inr ⟨hj, by rw [e_Na_find_nw_tape_bytes_3, r1, if_pos (nI_le (Nat.le_refl _) (by omega))]⟩
    | succ m ih =>
      intro k hk hj
      obtain ⟨a, b, ea, eb, hw, -, -⟩ := r2 k (by omega)
      obtain ⟨w1, w2, w3, w4⟩ := hw
      simp only [Nat.reduceAdd] at ea eb
      have hnm : nmS D T 35 s e k ↔ b - a = e - s ∧ ∀ j, j < e - s → T (a + j) = T (s + j) := by
        unfold nmS
        simp only [Nat.reduceAdd]
        rw [ea, eb, iC (by omega), iC (by omega)]
      have hnx : ¬ nmS D T 35 s e k → ∀ j, j < k + 1 → ¬ nmS D T 35 s e j := fun hz j hj' => by
        by_cases z : j = k
        · rw [z]
          exact hz
        · exact hj j (by omega)
      by_cases c : b - a = e - s
      · rcases X_same (E := E) hn h2 (a := a) (s := s) (L := e - s) (by omega) (by omega) with ⟨q1, q2⟩ | ⟨q1, q2⟩
        · refine Or.inl ⟨k, by omega, hnm.mpr ⟨c, q2⟩, hj, ?_⟩
          rw [e_Na_find_nw_tape_bytes_3, r1]
          simp (disch := omega) only [sC, sN, sN0, sLL, sTT, sEE, sM1, sF, sGt, sLe, sLt, sNe, or_false, or_true, false_or, true_or, or_self, if_true, if_false, not_true_eq_false, not_false_eq_true, B1s, B0s, B2s, ea, eb, pk_sub, c, q1, h10]
        · have st : Na_find_nw_tape_bytes_3 (nI s) (nI e) (nI k) D E = Na_find_nw_tape_bytes_3 (nI s) (nI e) (nI (k + 1)) D E := by
            rw [e_Na_find_nw_tape_bytes_3, r1]
            simp (disch := omega) only [sC, sN, sN0, sLL, sTT, sEE, sM1, sF, sGt, sLe, sLt, sNe, or_false, or_true, false_or, true_or, or_self, if_true, if_false, not_true_eq_false, not_false_eq_true, B1s, B0s, B2s, ea, eb, pk_sub, c, q1, ca1]
          rw [st]
          exact ih (k + 1) (by omega) (hnx (fun z => q2 (hnm.mp z).2))
      · have st : Na_find_nw_tape_bytes_3 (nI s) (nI e) (nI k) D E = Na_find_nw_tape_bytes_3 (nI s) (nI e) (nI (k + 1)) D E := by
          rw [e_Na_find_nw_tape_bytes_3, r1]
          simp (disch := omega) only [sC, sN, sN0, sLL, sTT, sEE, sM1, sF, sGt, sLe, sLt, sNe, or_false, or_true, false_or, true_or, or_self, if_true, if_false, not_true_eq_false, not_false_eq_true, B1s, B0s, B2s, ea, eb, pk_sub, c, ca1]
        rw [st]
        exact ih (k + 1) (by omega) (hnx (fun z => c (hnm.mp z).1))
  exact loop cnt 0 (by omega) (fun j hj => absurd hj (by omega))
theorem X_find_nh {T : Nat → Int32} {n F cnt s e : Nat} {D : pD} {E EM : pDL} (hn : n ≤ 1200) (h2 : D 2 0 = T) (hr : nmR D EM T n 38 F cnt) (hc : cnt ≤ 20) (hse : s ≤ e) (hen : e ≤ n) : (∃ i, i < cnt ∧ nmS D T 38 s e i ∧ (∀ j, j < i → ¬ nmS D T 38 s e j) ∧ Na_find_nh_tape_bytes (nI s) (nI e) D E = some (some (.inl (nI i)), D, E)) ∨ ((∀ i, i < cnt → ¬ nmS D T 38 s e i) ∧ Na_find_nh_tape_bytes (nI s) (nI e) D E = some (some (.inl (-1)), D, E)) := by
  obtain ⟨r1, r2⟩ := hr
  rw [e_Na_find_nh_tape_bytes]
  have loop : ∀ m k, k + m = cnt → (∀ j, j < k → ¬ nmS D T 38 s e j) → (∃ i, i < cnt ∧ nmS D T 38 s e i ∧ (∀ j, j < i → ¬ nmS D T 38 s e j) ∧ Na_find_nh_tape_bytes_3 (nI s) (nI e) (nI k) D E = some (some (.inl (nI i)), D, E)) ∨ ((∀ i, i < cnt → ¬ nmS D T 38 s e i) ∧ Na_find_nh_tape_bytes_3 (nI s) (nI e) (nI k) D E = some (some (.inl (-1)), D, E)) := by
    intro m
    induction m with
    | zero =>
      intro k hk hj
      obtain rfl : k = cnt := by omega
      exact Or.inr ⟨hj, by rw [e_Na_find_nh_tape_bytes_3, r1, if_pos (nI_le (Nat.le_refl _) (by omega))]⟩
    | succ m ih =>
      intro k hk hj
      obtain ⟨a, b, ea, eb, hw, -, -⟩ := r2 k (by omega)
      obtain ⟨w1, w2, w3, w4⟩ := hw
      simp only [Nat.reduceAdd] at ea eb
      have hnm : nmS D T 38 s e k ↔ b - a = e - s ∧ ∀ j, j < e - s → T (a + j) = T (s + j) := by
        unfold nmS
        simp only [Nat.reduceAdd]
        rw [ea, eb, iC (by omega), iC (by omega)]
      have hnx : ¬ nmS D T 38 s e k → ∀ j, j < k + 1 → ¬ nmS D T 38 s e j := fun hz j hj' => by
        by_cases z : j = k
        · rw [z]
          exact hz
        · exact hj j (by omega)
      by_cases c : b - a = e - s
      · rcases X_same (E := E) hn h2 (a := a) (s := s) (L := e - s) (by omega) (by omega) with ⟨q1, q2⟩ | ⟨q1, q2⟩
        · refine Or.inl ⟨k, by omega, hnm.mpr ⟨c, q2⟩, hj, ?_⟩
          rw [e_Na_find_nh_tape_bytes_3, r1]
          simp (disch := omega) only [sC, sN, sN0, sLL, sTT, sEE, sM1, sF, sGt, sLe, sLt, sNe, or_false, or_true, false_or, true_or, or_self, if_true, if_false, not_true_eq_false, not_false_eq_true, B1s, B0s, B2s, ea, eb, pk_sub, c, q1, h10]
        · have st : Na_find_nh_tape_bytes_3 (nI s) (nI e) (nI k) D E = Na_find_nh_tape_bytes_3 (nI s) (nI e) (nI (k + 1)) D E := by
            rw [e_Na_find_nh_tape_bytes_3, r1]
            simp (disch := omega) only [sC, sN, sN0, sLL, sTT, sEE, sM1, sF, sGt, sLe, sLt, sNe, or_false, or_true, false_or, true_or, or_self, if_true, if_false, not_true_eq_false, not_false_eq_true, B1s, B0s, B2s, ea, eb, pk_sub, c, q1, ca1]
          rw [st]
          exact ih (k + 1) (by omega) (hnx (fun z => q2 (hnm.mp z).2))
      · have st : Na_find_nh_tape_bytes_3 (nI s) (nI e) (nI k) D E = Na_find_nh_tape_bytes_3 (nI s) (nI e) (nI (k + 1)) D E := by
          rw [e_Na_find_nh_tape_bytes_3, r1]
          simp (disch := omega) only [sC, sN, sN0, sLL, sTT, sEE, sM1, sF, sGt, sLe, sLt, sNe, or_false, or_true, false_or, true_or, or_self, if_true, if_false, not_true_eq_false, not_false_eq_true, B1s, B0s, B2s, ea, eb, pk_sub, c, ca1]
        rw [st]
        exact ih (k + 1) (by omega) (hnx (fun z => c (hnm.mp z).1))
  exact loop cnt 0 (by omega) (fun j hj => absurd hj (by omega))
theorem M_named {T : Nat → Int32} {n B F cnt s e : Nat} {DX DM : pD} {EM : pDL} (hr : nmR DX EM T n B F cnt) (hn : n ≤ 1200) (hF : F + cnt ≤ 64) (hw : Wd T n s e) (h10' : EM 100 10 = lN (frn T s e)) (h11 : EM 100 11 = lN (ren T s e)) : (∀ i, i < cnt → nmS DX T B s e i → (∀ j, j < i → ¬ nmS DX T B s e j) → Mo_named (nI F) (nI cnt) DM EM = some (some (.inl (nI i)), DM, EM)) ∧ ((∀ i, i < cnt → ¬ nmS DX T B s e i) → Mo_named (nI F) (nI cnt) DM EM = some (some (.inl (-1)), DM, EM)) := by
  obtain ⟨r1, r2⟩ := hr
  have key : ∀ k, k < cnt → (nmS DX T B s e k ↔ (EM 103 (F + k) = EM 100 10 ∧ EM 104 (F + k) = EM 100 11)) := by
    intro k hk
    obtain ⟨a, b, ea, eb, hw', e1, e2⟩ := r2 k hk
    have l1 := hw.fr_lt
    have l2 := hw'.fr_lt
    have hne := name_eq hw' hw
    have a1 := hw'.1
    have a2 := hw'.2.1
    rw [e1, e2, h10', h11, pk_lEQ l2.1 l1.1, pk_lEQ l2.2 l1.2, hne]
    unfold nmS
    rw [ea, eb, iC (by omega), iC (by omega)]
    constructor
    · intro ⟨q1, q2⟩
      exact ⟨q1, fun i hi => q2 i (by omega)⟩
    · intro ⟨q1, q2⟩
      exact ⟨q1, fun i hi => q2 i (by omega)⟩
  have step : ∀ k, k < cnt → ¬ nmS DX T B s e k → Mo_named_2 (nI F) (nI cnt) (nI k) DM EM = Mo_named_2 (nI F) (nI cnt) (nI (k + 1)) DM EM := by
    intro k hk hz
    rw [key k hk] at hz
    rw [e_Mo_named_2]
    by_cases c1 : EM 103 (F + k) = EM 100 10
    · have c2 : ¬ EM 104 (F + k) = EM 100 11 := fun z => hz ⟨c1, z⟩
      simp (disch := omega) only [sC, sN, sN0, sLL, sTT, sEE, sM1, sF, sGt, sLe, sLt, sNe, or_false, or_true, false_or, true_or, or_self, if_true, if_false, not_true_eq_false, not_false_eq_true, B1s, B0s, B2s, nI_add, lg0, c1, c2, ca1]
    · simp (disch := omega) only [sC, sN, sN0, sLL, sTT, sEE, sM1, sF, sGt, sLe, sLt, sNe, or_false, or_true, false_or, true_or, or_self, if_true, if_false, not_true_eq_false, not_false_eq_true, B1s, B0s, B2s, nI_add, lg0, c1, ca1]
  rw [e_Mo_named]
  constructor
  · intro i hi hs hj
    have l := zto (fun k => Mo_named_2 (nI F) (nI cnt) (nI k) DM EM) 0 i (by omega) (fun k _ h2 => step k (by omega) (hj k h2))
    have l' : Mo_named_2 (nI F) (nI cnt) 0 DM EM = Mo_named_2 (nI F) (nI cnt) (nI i) DM EM := l
    obtain ⟨c1, c2⟩ := (key i hi).mp hs
    rw [l', e_Mo_named_2]
    simp (disch := omega) only [sC, sN, sN0, sLL, sTT, sEE, sM1, sF, sGt, sLe, sLt, sNe, or_false, or_true, false_or, true_or, or_self, if_true, if_false, not_true_eq_false, not_false_eq_true, B1s, B0s, B2s, nI_add, lg0, c1, c2]
  · intro hj
    have l := zto (fun k => Mo_named_2 (nI F) (nI cnt) (nI k) DM EM) 0 cnt (by omega) (fun k _ h2 => step k h2 (hj k h2))
    have l' : Mo_named_2 (nI F) (nI cnt) 0 DM EM = Mo_named_2 (nI F) (nI cnt) (nI cnt) DM EM := l
    rw [l', e_Mo_named_2, if_pos (nI_le (Nat.le_refl _) (by omega))]

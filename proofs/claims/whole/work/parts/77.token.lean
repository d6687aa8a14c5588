/-! THE TEXT: bytes and tokens -/
theorem dset_dset (D : pD) (k j i : Nat) (x y : Int32) : dset (dset D k j i x) k j i y = dset D k j i y := by
  funext k' j'
  unfold dset
  by_cases e : k' = k ∧ j' = j
  · rw [if_pos e, if_pos e, if_pos ⟨rfl, rfl⟩]
    funext q
    by_cases eq : q = i
    · rw [eq, pk_us, pk_us]
    · rw [pk_un eq, pk_un eq, pk_un eq]
  · rw [if_neg e, if_neg e, if_neg e]
theorem b255 {b : Int32} (h : b.toInt8.toInt32 = b) : (∃ k : Nat, k < 128 ∧ b = nI k ∧ b &&& 255 = nI k) ∨ (∃ k : Nat, 128 ≤ k ∧ k < 256 ∧ b &&& 255 = nI k ∧ b < 0) := by
  obtain ⟨n, hn, e, e2⟩ := of_nI b
  have h1 : b.toInt = b.toInt8.toInt := by
    rw [← Int8.toInt_toInt32, h]
  have h2 := Int8.toInt_lt b.toInt8
  have h3 := Int8.le_toInt b.toInt8
  have ea : b &&& 255 = nI (n % 256) := by
    rw [e, show (255 : Int32) = nI 255 from rfl, andN hn (by omega), Nat.and_two_pow_sub_one_eq_mod n 8]
  by_cases c : n < 2147483648
  · have : b.toInt = n := by rw [e, nI_toInt c]
    left
    have hk : n < 128 := by omega
    exact ⟨n, hk, e, by rw [ea, Nat.mod_eq_of_lt (by omega)]⟩
  · right
    have hti : b.toInt = (n : Int) - 4294967296 := by
      have : b.toInt = b.toBitVec.toInt := rfl
      rw [this, BitVec.toInt_eq_toNat_cond, e2]
      split
      · omega
      · rfl
    refine ⟨n % 256, by omega, by omega, ea, ?_⟩
    rw [Int32.lt_iff_toInt_lt, hti]
    have : (0 : Int32).toInt = 0 := rfl
    omega
/-- a small letter, a digit, a blank -/
def ltr (b : Int32) : Prop := ¬ b < 97 ∧ ¬ 122 < b
def dgt (b : Int32) : Prop := ¬ b < 48 ∧ ¬ 57 < b
def blk_ (b : Int32) : Prop := b = 32 ∨ b = 10
theorem ltr_n {k : Nat} (hk : k < 2147483648) : ltr (nI k) ↔ 97 ≤ k ∧ k ≤ 122 := by
  unfold ltr
  rw [cu97, ct122] <;> omega
theorem dgt_n {k : Nat} (hk : k < 2147483648) : dgt (nI k) ↔ 48 ≤ k ∧ k ≤ 57 := by
  unfold dgt
  rw [cu48, ct57] <;> omega
theorem neg_lt {b : Int32} (h : b < 0) {k : Nat} (hk : k < 2147483648) : b < nI k := by
  rw [Int32.lt_iff_toInt_lt] at h ⊢
  rw [nI_toInt hk]
  have : (0 : Int32).toInt = 0 := rfl
  omega
theorem neg_ne {b : Int32} (h : b < 0) {k : Nat} (hk : k < 2147483648) : ¬ b = nI k := fun z => by
  rw [z] at h
  exact iN hk h
theorem small_s {b : Int32} (h : b.toInt8.toInt32 = b) (D : pD) (E : pDL) : (ltr b → Mo_isSmall (b &&& 255) D E = some (some (.inl 1), D, E)) ∧ (¬ ltr b → Mo_isSmall (b &&& 255) D E = some (some (.inl 0), D, E)) := by
  rcases b255 h with ⟨k, hk, e, ea⟩ | ⟨k, h1, h2, ea, hn⟩
  · rw [ea, e, ltr_n (by omega), e_Mo_isSmall]
    simp (disch := omega) only [cu97, ct122]
    constructor
    · intro z
      rw [if_neg (by omega), if_neg (by omega)]
    · intro z
      by_cases c : k < 97
      · rw [if_pos c]
      · rw [if_neg c, if_pos (by omega)]
  · have hl : ¬ ltr b := fun z => z.1 (neg_lt hn (k := 97) (by omega))
    refine ⟨fun z => absurd z hl, fun _ => ?_⟩
    rw [ea, e_Mo_isSmall]
    simp (disch := omega) only [cu97, ct122]
    rw [if_neg (by omega), if_pos (by omega)]
theorem digit_s {b : Int32} (h : b.toInt8.toInt32 = b) (D : pD) (E : pDL) : (dgt b → Mo_isDigit (b &&& 255) D E = some (some (.inl 1), D, E)) ∧ (¬ dgt b → Mo_isDigit (b &&& 255) D E = some (some (.inl 0), D, E)) := by
  rcases b255 h with ⟨k, hk, e, ea⟩ | ⟨k, h1, h2, ea, hn⟩
  · rw [ea, e, dgt_n (by omega), e_Mo_isDigit]
    simp (disch := omega) only [cu48, ct57]
    constructor
    · intro z
      rw [if_neg (by omega), if_neg (by omega)]
    · intro z
      by_cases c : k < 48
      · rw [if_pos c]
      · rw [if_neg c, if_pos (by omega)]
  · have hl : ¬ dgt b := fun z => z.1 (neg_lt hn (k := 48) (by omega))
    refine ⟨fun z => absurd z hl, fun _ => ?_⟩
    rw [ea, e_Mo_isDigit]
    simp (disch := omega) only [cu48, ct57]
    rw [if_neg (by omega), if_pos (by omega)]
theorem eq_s {b : Int32} (h : b.toInt8.toInt32 = b) {k : Nat} (hk : k < 128) : (b &&& 255 = nI k) = (b = nI k) := by
  rcases b255 h with ⟨j, hj, e, ea⟩ | ⟨j, h1, h2, ea, hn⟩
  · rw [ea, e]
  · rw [ea]
    apply propext
    constructor
    · intro z
      have := (iE (by omega) (by omega)).mp z
      omega
    · intro z
      exact absurd z (neg_ne hn (by omega))
theorem ne_m1 {b : Int32} (h : b.toInt8.toInt32 = b) : ¬ b &&& 255 = -1 := by
  rcases b255 h with ⟨j, hj, e, ea⟩ | ⟨j, h1, h2, ea, hn⟩ <;> rw [ea] <;> exact iM (by omega)
/-- the sign of a byte -/
def sg (b : Int32) : Int32 := if b < 97 ∨ 122 < b then (if b < 48 ∨ 57 < b then (if b = 59 then 59 else if b = 45 then 45 else 63) else 48) else 97
theorem X_sign (b : Int32) (D : pD) (E : pDL) : Re_signOf b D E = some (some (.inl (sg b)), D, E) := by
  have c59 : ((59 : Int32).toUInt32 % 65536).toInt32 = 59 := by decide
  have c45 : ((45 : Int32).toUInt32 % 65536).toInt32 = 45 := by decide
  have h15 : Re_signOf_15 b D E = some (some (.inl (if b < 48 ∨ 57 < b then (if b = 59 then 59 else if b = 45 then 45 else 63) else 48)), D, E) := by
    rw [e_Re_signOf_15]
    by_cases c1 : b < 48
    · rw [if_pos c1, if_pos (Or.inl c1)]
      by_cases c3 : b = 59
      · subst c3
        exact absurd c1 (by decide)
      · rw [if_neg c3, if_neg c3]
        by_cases c4 : b = 45
        · subst c4
          rw [if_pos rfl, if_pos rfl, c45, if_pos c45]
        · rw [if_neg c4, if_neg c4]
    · rw [if_neg c1]
      by_cases c2 : 57 < b
      · rw [if_pos c2, if_pos (Or.inr c2)]
        by_cases c3 : b = 59
        · subst c3
          rw [if_pos rfl, if_pos rfl, c59, if_pos c59]
        · rw [if_neg c3, if_neg c3]
          by_cases c4 : b = 45
          · subst c4
            exact absurd c2 (by decide)
          · rw [if_neg c4, if_neg c4]
      · rw [if_neg c2, if_neg (fun z => z.elim c1 c2)]
  rw [e_Re_signOf]
  unfold sg
  by_cases c1 : b < 97
  · rw [if_pos c1, if_pos (Or.inl c1), h15]
  · rw [if_neg c1]
    by_cases c2 : 122 < b
    · rw [if_pos c2, if_pos (Or.inr c2), h15]
    · rw [if_neg c2, if_neg (fun z => z.elim c1 c2)]
theorem sg_l {b : Int32} (h : ltr b) : sg b = 97 := if_neg (fun z => z.elim h.1 h.2)
theorem not_ltr {b : Int32} (h : ¬ ltr b) : b < 97 ∨ 122 < b := by
  unfold ltr at h
  by_cases c : b < 97
  · exact Or.inl c
  · exact Or.inr (Classical.byContradiction fun z => h ⟨c, z⟩)
theorem not_dgt {b : Int32} (h : ¬ dgt b) : b < 48 ∨ 57 < b := by
  unfold dgt at h
  by_cases c : b < 48
  · exact Or.inl c
  · exact Or.inr (Classical.byContradiction fun z => h ⟨c, z⟩)
theorem ltr_nd {b : Int32} (h : ltr b) : ¬ dgt b := fun z => by
  have h1 := h.1
  have h2 := z.2
  rw [← iNL] at h1 h2
  have := Int32.le_trans h1 h2
  exact absurd this (by decide)
theorem sg_d {b : Int32} (h : dgt b) : sg b = 48 := by
  unfold sg
  have hl : ¬ ltr b := fun z => ltr_nd z h
  rw [if_pos (not_ltr hl), if_neg (fun z => z.elim h.1 h.2)]
theorem sg_o {b : Int32} (h1 : ¬ ltr b) (h2 : ¬ dgt b) : sg b = if b = 59 then 59 else if b = 45 then 45 else 63 := by
  unfold sg
  rw [if_pos (not_ltr h1), if_pos (not_dgt h2)]
theorem sg_97 (b : Int32) : sg b = 97 ↔ ltr b := by
  constructor
  · intro h
    apply Classical.byContradiction
    intro z
    by_cases d : dgt b
    · rw [sg_d d] at h
      exact absurd h (by decide)
    · rw [sg_o z d] at h
      by_cases c1 : b = 59
      · rw [if_pos c1] at h
        exact absurd h (by decide)
      · rw [if_neg c1] at h
        by_cases c2 : b = 45
        · rw [if_pos c2] at h
          exact absurd h (by decide)
        · rw [if_neg c2] at h
          exact absurd h (by decide)
  · exact sg_l
theorem sg_48 (b : Int32) : sg b = 48 ↔ dgt b := by
  constructor
  · intro h
    apply Classical.byContradiction
    intro d
    by_cases z : ltr b
    · rw [sg_l z] at h
      exact absurd h (by decide)
    · rw [sg_o z d] at h
      by_cases c1 : b = 59
      · rw [if_pos c1] at h
        exact absurd h (by decide)
      · rw [if_neg c1] at h
        by_cases c2 : b = 45
        · rw [if_pos c2] at h
          exact absurd h (by decide)
        · rw [if_neg c2] at h
          exact absurd h (by decide)
  · exact sg_d
/-- a run of bytes of a kind -/
def Run (C : Int32 → Prop) (T : Nat → Int32) (n s e : Nat) : Prop := s ≤ e ∧ e ≤ n ∧ (∀ i, s ≤ i → i < e → C (T i)) ∧ (e < n → ¬ C (T e))
theorem run_ex (C : Int32 → Prop) (T : Nat → Int32) (n : Nat) : ∀ m s, s + m = n → ∃ e, Run C T n s e
  | 0, s, h => ⟨s, Nat.le_refl _, by omega, fun i h1 h2 => absurd h1 (by omega), fun z => absurd z (by omega)⟩
  | m + 1, s, h => by
    by_cases c : C (T s)
    · obtain ⟨e, h1, h2, h3, h4⟩ := run_ex C T n m (s + 1) (by omega)
      refine ⟨e, by omega, h2, fun i q1 q2 => ?_, h4⟩
      by_cases z : i = s
      · rw [z]
        exact c
      · exact h3 i (by omega) q2
    · exact ⟨s, Nat.le_refl _, by omega, fun i h1 h2 => absurd h1 (by omega), fun _ => c⟩
/-- the token behind q: from s to e; 0 none, 1 word, 2 number, 3 semicolon, 4 minus, 5 the end -/
def Tok (T : Nat → Int32) (n q s e c : Nat) : Prop := Run blk_ T n q s ∧ ((s = n ∧ e = s ∧ c = 5) ∨ (s < n ∧ ltr (T s) ∧ Run ltr T n s e ∧ c = if e - s ≤ 24 then 1 else 0) ∨ (s < n ∧ dgt (T s) ∧ Run dgt T n s e ∧ c = if e - s ≤ 3 then 2 else 0) ∨ (s < n ∧ ¬ ltr (T s) ∧ ¬ dgt (T s) ∧ e = s + 1 ∧ c = if T s = 59 then 3 else if T s = 45 then 4 else 0))
theorem tok_ex (T : Nat → Int32) {n q : Nat} (h : q ≤ n) : ∃ s e c, Tok T n q s e c := by
  obtain ⟨s, hs⟩ := run_ex blk_ T n (n - q) q (by omega)
  have hsn := hs.2.1
  by_cases c0 : s = n
  · exact ⟨s, s, 5, hs, Or.inl ⟨c0, rfl, rfl⟩⟩
  · by_cases c1 : ltr (T s)
    · obtain ⟨e, he⟩ := run_ex ltr T n (n - s) s (by omega)
      exact ⟨s, e, _, hs, Or.inr (Or.inl ⟨by omega, c1, he, rfl⟩)⟩
    · by_cases c2 : dgt (T s)
      · obtain ⟨e, he⟩ := run_ex dgt T n (n - s) s (by omega)
        exact ⟨s, e, _, hs, Or.inr (Or.inr (Or.inl ⟨by omega, c2, he, rfl⟩))⟩
      · exact ⟨s, s + 1, _, hs, Or.inr (Or.inr (Or.inr ⟨by omega, c1, c2, rfl, rfl⟩))⟩
theorem Tok.le {T : Nat → Int32} {n q s e c : Nat} (h : Tok T n q s e c) : q ≤ s ∧ s ≤ e ∧ e ≤ n ∧ c ≤ 5 := by
  obtain ⟨⟨h1, h2, -, -⟩, h3⟩ := h
  rcases h3 with ⟨a1, a2, a3⟩ | ⟨a1, a2, ⟨a3, a4, -, -⟩, a5⟩ | ⟨a1, a2, ⟨a3, a4, -, -⟩, a5⟩ | ⟨a1, a2, a3, a4, a5⟩
  · omega
  · refine ⟨h1, a3, a4, ?_⟩
    rw [a5]
    split <;> omega
  · refine ⟨h1, a3, a4, ?_⟩
    rw [a5]
    split <;> omega
  · refine ⟨h1, by omega, by omega, ?_⟩
    rw [a5]
    split
    · omega
    · split <;> omega
/-- the class's sign of a token -/
def chT (c : Nat) : Int32 := if c = 1 then 97 else if c = 2 then 48 else if c = 3 then 59 else if c = 4 then 45 else if c = 5 then 69 else 63
/-- advance -/
theorem X_adv {T : Nat → Int32} {n q s e c : Nat} {D : pD} {E : pDL} (hn : n ≤ 1200) (hT : D 2 0 = T) (h6 : D 17 0 6 = 1) (h7 : D 17 0 7 = nI n) (h9 : D 17 0 9 = nI q) (ht : Tok T n q s e c) : ∃ D', Re_advance D E = some (none, D', E) ∧ Ko [17] D D' ∧ D' 17 0 8 = nI s ∧ D' 17 0 9 = nI e ∧ D' 17 0 10 = chT c ∧ ∀ i, i ≠ 8 → i ≠ 9 → i ≠ 10 → D' 17 0 i = D 17 0 i := by
  obtain ⟨⟨r1, r2, r3, r4⟩, h3⟩ := ht
  have loop : Re_advance D E = Re_advance_60 (dset D 17 0 8 (nI s)) E := by
    rw [e_Re_advance, h9]
    refine (zto (fun i => Re_advance_8 (dset D 17 0 8 (nI i)) E) q s r1 (fun i h1 h2 => ?_)).trans ?_
    · show Re_advance_8 _ _ = Re_advance_8 _ _
      have e8 : dset D 17 0 8 (nI i) 17 0 8 = nI i := by rw [dsA, if_pos rfl]
      have e7 : dset D 17 0 8 (nI i) 17 0 7 = nI n := by rw [dsA, if_neg (by decide), h7]
      have e6 : dset D 17 0 8 (nI i) 17 0 6 = 1 := by rw [dsA, if_neg (by decide), h6]
      have e2 : dset D 17 0 8 (nI i) 2 0 = T := by rw [dsN (by decide), hT]
      rw [e_Re_advance_8, e8, e7, e6, e2]
      rcases r3 i h1 h2 with z | z
      · simp (disch := omega) only [sC, sN, sN0, sLL, sTT, sEE, sM1, sF, sGt, sLe, sLt, sNe, or_false, or_true, false_or, true_or, or_self, if_true, if_false, not_true_eq_false, not_false_eq_true, B1s, B0s, B2s, z, ca1, dset_dset]
      · have z2 : ¬ T i = 32 := by rw [z]; decide
        rw [if_neg (nI_ge (by omega) (by omega)), if_pos rfl, if_neg (iB (by omega) (by omega)), iC (by omega), if_neg z2, if_pos rfl, if_neg (by have := iB (k := i) (N := 1200) (by omega) (by omega); rw [iC (by omega)] at this; exact this), if_pos z, ca1, dset_dset]
    · show Re_advance_8 _ _ = _
      have e8 : dset D 17 0 8 (nI s) 17 0 8 = nI s := by rw [dsA, if_pos rfl]
      have e7 : dset D 17 0 8 (nI s) 17 0 7 = nI n := by rw [dsA, if_neg (by decide), h7]
      have e6 : dset D 17 0 8 (nI s) 17 0 6 = 1 := by rw [dsA, if_neg (by decide), h6]
      have e2 : dset D 17 0 8 (nI s) 2 0 = T := by rw [dsN (by decide), hT]
      rw [e_Re_advance_8, e8, e7, e6, e2]
      by_cases c0 : n ≤ s
      · rw [if_pos (nI_le c0 (by omega))]
      · have hb := r4 (by omega)
        have z1 : ¬ T s = 32 := fun z => hb (Or.inl z)
        have z2 : ¬ T s = 10 := fun z => hb (Or.inr z)
        simp (disch := omega) only [sC, sN, sN0, sLL, sTT, sEE, sM1, sF, sGt, sLe, sLt, sNe, or_false, or_true, false_or, true_or, or_self, if_true, if_false, not_true_eq_false, not_false_eq_true, B1s, B0s, B2s, z1, z2]
  have e8 : dset D 17 0 8 (nI s) 17 0 8 = nI s := by rw [dsA, if_pos rfl]
  have e7 : dset D 17 0 8 (nI s) 17 0 7 = nI n := by rw [dsA, if_neg (by decide), h7]
  have e6 : dset D 17 0 8 (nI s) 17 0 6 = 1 := by rw [dsA, if_neg (by decide), h6]
  have e2 : dset D 17 0 8 (nI s) 2 0 = T := by rw [dsN (by decide), hT]
  have k0 : Ko [17] D (dset D 17 0 8 (nI s)) := Ko.rf.set (by decide) _ _ _
  have fin : ∀ (x y : Int32), ∃ D', dset (dset (dset D 17 0 8 (nI s)) 17 0 10 x) 17 0 9 y = D' ∧ Ko [17] D D' ∧ D' 17 0 8 = nI s ∧ D' 17 0 9 = y ∧ D' 17 0 10 = x ∧ ∀ i, i ≠ 8 → i ≠ 9 → i ≠ 10 → D' 17 0 i = D 17 0 i := by
    intro x y
    refine ⟨_, rfl, (k0.set (by decide) _ _ _).set (by decide) _ _ _, ?_, ?_, ?_, fun i i1 i2 i3 => ?_⟩
    · rw [dsA, if_neg (by decide), dsA, if_neg (by decide), dsA, if_pos rfl]
    · rw [dsA, if_pos rfl]
    · rw [dsA, if_neg (by decide), dsA, if_pos rfl]
    · rw [dsA, if_neg i2, dsA, if_neg i3, dsA, if_neg i1]
  rw [loop, e_Re_advance_60, e8, e7, e6, e2]
  rcases h3 with ⟨a1, a2, a3⟩ | ⟨a1, a2, a3, a5⟩ | ⟨a1, a2, a3, a5⟩ | ⟨a1, a2, a3, a4, a5⟩
  · rw [if_neg (nI_nlt (by omega) (by omega)), if_pos (by decide)]
    refine ⟨_, rfl, (k0.set (by decide) _ _ _).set (by decide) _ _ _, ?_, ?_, ?_, fun i i1 i2 i3 => ?_⟩
    · rw [dsA, if_neg (by decide), dsA, if_neg (by decide), dsA, if_pos rfl]
    · rw [dsA, if_neg (by decide), dsA, if_pos rfl, a2]
    · rw [dsA, if_pos rfl, a3]
      rfl
    · rw [dsA, if_neg i3, dsA, if_neg i2, dsA, if_neg i1]
  · obtain ⟨q1, q2, q3, q4⟩ := a3
    have hse : s < e := by
      rcases Nat.lt_or_ge s e with z | z
      · exact z
      · have : e = s := by omega
        rw [this] at q4
        exact absurd a2 (q4 a1)
    have st : ∀ x y : Int32, dset (dset (dset (dset D 17 0 8 (nI s)) 17 0 10 x) 17 0 9 y) 17 0 9 = dset (dset (dset (dset D 17 0 8 (nI s)) 17 0 10 x) 17 0 9 y) 17 0 9 := fun _ _ => rfl
    have run : Re_advance_130 (dset (dset (dset D 17 0 8 (nI s)) 17 0 10 97) 17 0 9 (nI (s + 1))) E = Re_advance_173 (dset (dset (dset D 17 0 8 (nI s)) 17 0 10 97) 17 0 9 (nI e)) E := by
      refine (zto (fun i => Re_advance_130 (dset (dset (dset D 17 0 8 (nI s)) 17 0 10 97) 17 0 9 (nI i)) E) (s + 1) e hse (fun i h1 h2 => ?_)).trans ?_
      · show Re_advance_130 _ _ = Re_advance_130 _ _
        have f9 : dset (dset (dset D 17 0 8 (nI s)) 17 0 10 97) 17 0 9 (nI i) 17 0 9 = nI i := by rw [dsA, if_pos rfl]
        have f7 : dset (dset (dset D 17 0 8 (nI s)) 17 0 10 97) 17 0 9 (nI i) 17 0 7 = nI n := by rw [dsA, if_neg (by decide), dsA, if_neg (by decide), e7]
        have f6 : dset (dset (dset D 17 0 8 (nI s)) 17 0 10 97) 17 0 9 (nI i) 17 0 6 = 1 := by rw [dsA, if_neg (by decide), dsA, if_neg (by decide), e6]
        have f10 : dset (dset (dset D 17 0 8 (nI s)) 17 0 10 97) 17 0 9 (nI i) 17 0 10 = 97 := by rw [dsA, if_neg (by decide), dsA, if_pos rfl]
        have f2 : dset (dset (dset D 17 0 8 (nI s)) 17 0 10 97) 17 0 9 (nI i) 2 0 = T := by rw [dsN (by decide), dsN (by decide), e2]
        rw [e_Re_advance_130, f9, f7, f6, f2]
        simp (disch := omega) only [sC, sN, sN0, sLL, sTT, sEE, sM1, sF, sGt, sLe, sLt, sNe, or_false, or_true, false_or, true_or, or_self, if_true, if_false, not_true_eq_false, not_false_eq_true, B1s, B0s, B2s, X_sign, sg_l (q3 i (by omega) h2), f10, f9, ca1, dset_dset]
      · show Re_advance_130 _ _ = _
        have f9 : dset (dset (dset D 17 0 8 (nI s)) 17 0 10 97) 17 0 9 (nI e) 17 0 9 = nI e := by rw [dsA, if_pos rfl]
        have f7 : dset (dset (dset D 17 0 8 (nI s)) 17 0 10 97) 17 0 9 (nI e) 17 0 7 = nI n := by rw [dsA, if_neg (by decide), dsA, if_neg (by decide), e7]
        have f6 : dset (dset (dset D 17 0 8 (nI s)) 17 0 10 97) 17 0 9 (nI e) 17 0 6 = 1 := by rw [dsA, if_neg (by decide), dsA, if_neg (by decide), e6]
        have f10 : dset (dset (dset D 17 0 8 (nI s)) 17 0 10 97) 17 0 9 (nI e) 17 0 10 = 97 := by rw [dsA, if_neg (by decide), dsA, if_pos rfl]
        have f2 : dset (dset (dset D 17 0 8 (nI s)) 17 0 10 97) 17 0 9 (nI e) 2 0 = T := by rw [dsN (by decide), dsN (by decide), e2]
        rw [e_Re_advance_130, f9, f7, f6, f2]
        by_cases c0 : n ≤ e
        · rw [if_pos (nI_le c0 (by omega))]
        · have hb : ¬ sg (T e) = 97 := fun z => q4 (by omega) ((sg_97 _).mp z)
          simp (disch := omega) only [sC, sN, sN0, sLL, sTT, sEE, sM1, sF, sGt, sLe, sLt, sNe, or_false, or_true, false_or, true_or, or_self, if_true, if_false, not_true_eq_false, not_false_eq_true, B1s, B0s, B2s, X_sign, f10, hb]
    obtain ⟨D', g0, g1, g2, g3, g4, g5⟩ := fin 97 (nI e)
    rw [if_pos (nI_lt a1 (by omega)), if_pos rfl, if_neg (iB (by omega) (by omega)), iC (by omega), X_sign, B1s, sg_l a2, if_pos (by decide), if_pos rfl, e8, ca1, run, g0, e_Re_advance_173, g4, if_pos rfl, g3, g2, pk_sub (show s ≤ e by omega)]
    by_cases c24 : e - s ≤ 24
    · rw [if_pos (nnl' 24 c24 (by omega))]
      rw [if_pos c24] at a5
      exact ⟨D', rfl, g1, g2, g3, by rw [g4, a5]; rfl, g5⟩
    · rw [if_neg (nle_of' 24 (by omega) (by omega)), if_pos (by decide)]
      rw [if_neg c24] at a5
      refine ⟨dset D' 17 0 10 63, rfl, g1.set (by decide) _ _ _, ?_, ?_, ?_, fun i i1 i2 i3 => ?_⟩
      · rw [dsA, if_neg (by decide), g2]
      · rw [dsA, if_neg (by decide), g3]
      · rw [dsA, if_pos rfl, a5]
        rfl
      · rw [dsA, if_neg i3, g5 i i1 i2 i3]
  · obtain ⟨q1, q2, q3, q4⟩ := a3
    have hse : s < e := by
      rcases Nat.lt_or_ge s e with z | z
      · exact z
      · have : e = s := by omega
        rw [this] at q4
        exact absurd a2 (q4 a1)
    have run : Re_advance_130 (dset (dset (dset D 17 0 8 (nI s)) 17 0 10 48) 17 0 9 (nI (s + 1))) E = Re_advance_173 (dset (dset (dset D 17 0 8 (nI s)) 17 0 10 48) 17 0 9 (nI e)) E := by
      refine (zto (fun i => Re_advance_130 (dset (dset (dset D 17 0 8 (nI s)) 17 0 10 48) 17 0 9 (nI i)) E) (s + 1) e hse (fun i h1 h2 => ?_)).trans ?_
      · show Re_advance_130 _ _ = Re_advance_130 _ _
        have f9 : dset (dset (dset D 17 0 8 (nI s)) 17 0 10 48) 17 0 9 (nI i) 17 0 9 = nI i := by rw [dsA, if_pos rfl]
        have f7 : dset (dset (dset D 17 0 8 (nI s)) 17 0 10 48) 17 0 9 (nI i) 17 0 7 = nI n := by rw [dsA, if_neg (by decide), dsA, if_neg (by decide), e7]
        have f6 : dset (dset (dset D 17 0 8 (nI s)) 17 0 10 48) 17 0 9 (nI i) 17 0 6 = 1 := by rw [dsA, if_neg (by decide), dsA, if_neg (by decide), e6]
        have f10 : dset (dset (dset D 17 0 8 (nI s)) 17 0 10 48) 17 0 9 (nI i) 17 0 10 = 48 := by rw [dsA, if_neg (by decide), dsA, if_pos rfl]
        have f2 : dset (dset (dset D 17 0 8 (nI s)) 17 0 10 48) 17 0 9 (nI i) 2 0 = T := by rw [dsN (by decide), dsN (by decide), e2]
        rw [e_Re_advance_130, f9, f7, f6, f2]
        simp (disch := omega) only [sC, sN, sN0, sLL, sTT, sEE, sM1, sF, sGt, sLe, sLt, sNe, or_false, or_true, false_or, true_or, or_self, if_true, if_false, not_true_eq_false, not_false_eq_true, B1s, B0s, B2s, X_sign, sg_d (q3 i (by omega) h2), f10, f9, ca1, dset_dset]
      · show Re_advance_130 _ _ = _
        have f9 : dset (dset (dset D 17 0 8 (nI s)) 17 0 10 48) 17 0 9 (nI e) 17 0 9 = nI e := by rw [dsA, if_pos rfl]
        have f7 : dset (dset (dset D 17 0 8 (nI s)) 17 0 10 48) 17 0 9 (nI e) 17 0 7 = nI n := by rw [dsA, if_neg (by decide), dsA, if_neg (by decide), e7]
        have f6 : dset (dset (dset D 17 0 8 (nI s)) 17 0 10 48) 17 0 9 (nI e) 17 0 6 = 1 := by rw [dsA, if_neg (by decide), dsA, if_neg (by decide), e6]
        have f10 : dset (dset (dset D 17 0 8 (nI s)) 17 0 10 48) 17 0 9 (nI e) 17 0 10 = 48 := by rw [dsA, if_neg (by decide), dsA, if_pos rfl]
        have f2 : dset (dset (dset D 17 0 8 (nI s)) 17 0 10 48) 17 0 9 (nI e) 2 0 = T := by rw [dsN (by decide), dsN (by decide), e2]
        rw [e_Re_advance_130, f9, f7, f6, f2]
        by_cases c0 : n ≤ e
        · rw [if_pos (nI_le c0 (by omega))]
        · have hb : ¬ sg (T e) = 48 := fun z => q4 (by omega) ((sg_48 _).mp z)
          simp (disch := omega) only [sC, sN, sN0, sLL, sTT, sEE, sM1, sF, sGt, sLe, sLt, sNe, or_false, or_true, false_or, true_or, or_self, if_true, if_false, not_true_eq_false, not_false_eq_true, B1s, B0s, B2s, X_sign, f10, hb]
    obtain ⟨D', g0, g1, g2, g3, g4, g5⟩ := fin 48 (nI e)
    rw [if_pos (nI_lt a1 (by omega)), if_pos rfl, if_neg (iB (by omega) (by omega)), iC (by omega), X_sign, B1s, sg_d a2, if_pos (by decide), if_neg (by decide), if_pos rfl, e8, ca1, run, g0, e_Re_advance_173, g4, if_neg (by decide), g3, g2, pk_sub (show s ≤ e by omega)]
    by_cases c24 : e - s ≤ 3
    · rw [if_pos (nnl' 3 c24 (by omega))]
      rw [if_pos c24] at a5
      exact ⟨D', rfl, g1, g2, g3, by rw [g4, a5]; rfl, g5⟩
    · rw [if_neg (nle_of' 3 (by omega) (by omega)), if_pos (by decide)]
      rw [if_neg c24] at a5
      refine ⟨dset D' 17 0 10 63, rfl, g1.set (by decide) _ _ _, ?_, ?_, ?_, fun i i1 i2 i3 => ?_⟩
      · rw [dsA, if_neg (by decide), g2]
      · rw [dsA, if_neg (by decide), g3]
      · rw [dsA, if_pos rfl, a5]
        rfl
      · rw [dsA, if_neg i3, g5 i i1 i2 i3]
  · have hso := sg_o a2 a3
    have h97 : ¬ sg (T s) = 97 := fun z => a2 ((sg_97 _).mp z)
    have h48 : ¬ sg (T s) = 48 := fun z => a3 ((sg_48 _).mp z)
    have hch : sg (T s) = chT c := by
      rw [hso, a5]
      by_cases c1 : T s = 59
      · rw [if_pos c1, if_pos c1]
        rfl
      · rw [if_neg c1, if_neg c1]
        by_cases c2 : T s = 45
        · rw [if_pos c2, if_pos c2]
          rfl
        · rw [if_neg c2, if_neg c2]
          rfl
    have hr : ((sg (T s)).toUInt32 % 65536).toInt32 = sg (T s) := by
      rw [hso]
      by_cases c1 : T s = 59
      · rw [if_pos c1]; decide
      · rw [if_neg c1]
        by_cases c2 : T s = 45
        · rw [if_pos c2]; decide
        · rw [if_neg c2]; decide
    obtain ⟨D', g0, g1, g2, g3, g4, g5⟩ := fin (sg (T s)) (nI (s + 1))
    rw [if_pos (nI_lt a1 (by omega)), if_pos rfl, if_neg (iB (by omega) (by omega)), iC (by omega), X_sign, B1s, if_pos hr, if_neg h97, if_neg h48, e8, ca1, g0]
    exact ⟨D', rfl, g1, g2, by rw [g3, a4], by rw [g4, hch], g5⟩

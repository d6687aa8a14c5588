/-! THE TEXT: the reference scans -/
theorem ltr_of {b : Int32} (h : ltr b) : ∃ k : Nat, 97 ≤ k ∧ k ≤ 122 ∧ b = nI k := by
  have h0 : ¬ b < 0 := fun z => h.1 (neg_lt z (k := 97) (by omega))
  obtain ⟨k, hk, rfl⟩ := nI_of h0
  have := (ltr_n hk).mp h
  exact ⟨k, this.1, this.2, rfl⟩
theorem dgt_of {b : Int32} (h : dgt b) : ∃ k : Nat, 48 ≤ k ∧ k ≤ 57 ∧ b = nI k := by
  have h0 : ¬ b < 0 := fun z => h.1 (neg_lt z (k := 48) (by omega))
  obtain ⟨k, hk, rfl⟩ := nI_of h0
  have := (dgt_n hk).mp h
  exact ⟨k, this.1, this.2, rfl⟩
/-- a number's worth -/
def nv (T : Nat → Int32) (s : Nat) : Nat → Nat
  | 0 => 0
  | k + 1 => 10 * nv T s k + ((T (s + k)).toNatClampNeg - 48)
theorem nv_lt {T : Nat → Int32} {s : Nat} : ∀ k, (∀ i, i < k → dgt (T (s + i))) → nv T s k < 10 ^ k
  | 0, _ => by rw [nv]; decide
  | k + 1, h => by
    have ih := nv_lt k (fun i hi => h i (by omega))
    obtain ⟨d, h1, h2, e⟩ := dgt_of (h k (by omega))
    rw [nv, e, iC (by omega), Nat.pow_succ]
    omega
/-- a word's worth -/
def enc (T : Nat → Int32) (s : Nat) : Nat → Nat
  | 0 => 0
  | k + 1 => 32 * enc T s k + ((T (s + k)).toNatClampNeg - 96)
theorem enc_lt {T : Nat → Int32} {s : Nat} : ∀ k, (∀ i, i < k → ltr (T (s + i))) → enc T s k < 32 ^ k
  | 0, _ => by rw [enc]; decide
  | k + 1, h => by
    have ih := enc_lt k (fun i hi => h i (by omega))
    obtain ⟨d, h1, h2, e⟩ := ltr_of (h k (by omega))
    rw [enc, e, iC (by omega), Nat.pow_succ]
    omega
theorem enc_inj {T : Nat → Int32} {s s' : Nat} : ∀ k k', (∀ i, i < k → ltr (T (s + i))) → (∀ i, i < k' → ltr (T (s' + i))) → enc T s k = enc T s' k' → k = k' ∧ ∀ i, i < k → T (s + i) = T (s' + i)
  | 0, 0, _, _, _ => ⟨rfl, fun i hi => absurd hi (by omega)⟩
  | 0, k' + 1, _, h', e => by
    obtain ⟨d, h1, h2, e2⟩ := ltr_of (h' k' (by omega))
    rw [enc, enc, e2, iC (by omega)] at e
    omega
  | k + 1, 0, h, _, e => by
    obtain ⟨d, h1, h2, e2⟩ := ltr_of (h k (by omega))
    rw [enc, enc, e2, iC (by omega)] at e
    omega
  | k + 1, k' + 1, h, h', e => by
    obtain ⟨d, h1, h2, e2⟩ := ltr_of (h k (by omega))
    obtain ⟨d', h1', h2', e2'⟩ := ltr_of (h' k' (by omega))
    rw [enc, enc, e2, e2', iC (by omega), iC (by omega)] at e
    obtain ⟨q1, q2⟩ := enc_inj k k' (fun i hi => h i (by omega)) (fun i hi => h' i (by omega)) (by omega)
    refine ⟨by omega, fun i hi => ?_⟩
    by_cases z : i = k
    · subst z
      rw [e2, q1, e2', show d = d' by omega]
    · exact q2 i (by omega)
def frn (T : Nat → Int32) (s e : Nat) : Nat := enc T s (min (e - s) 12)
def ren (T : Nat → Int32) (s e : Nat) : Nat := enc T (s + 12) (e - s - 12)
/-- a word of the text -/
def Wd (T : Nat → Int32) (n s e : Nat) : Prop := s ≤ e ∧ e ≤ n ∧ e - s ≤ 24 ∧ ∀ i, s ≤ i → i < e → ltr (T i)
theorem Wd.fr_lt {T : Nat → Int32} {n s e : Nat} (h : Wd T n s e) : frn T s e < 2 ^ 63 ∧ ren T s e < 2 ^ 63 := by
  obtain ⟨h1, h2, h3, h4⟩ := h
  have a := enc_lt (T := T) (s := s) (min (e - s) 12) (fun i hi => h4 _ (by omega) (by omega))
  have b := enc_lt (T := T) (s := s + 12) (e - s - 12) (fun i hi => h4 _ (by omega) (by omega))
  have p12 : (32 : Nat) ^ 12 < 2 ^ 63 := by decide
  have pa : 32 ^ (min (e - s) 12) ≤ 32 ^ 12 := Nat.pow_le_pow_right (by decide) (by omega)
  have pb : 32 ^ (e - s - 12) ≤ 32 ^ 12 := Nat.pow_le_pow_right (by decide) (by omega)
  unfold frn ren
  omega
theorem name_eq {T : Nat → Int32} {n s e s' e' : Nat} (h : Wd T n s e) (h' : Wd T n s' e') : (frn T s e = frn T s' e' ∧ ren T s e = ren T s' e') ↔ (e - s = e' - s' ∧ ∀ i, i < e - s → T (s + i) = T (s' + i)) := by
  obtain ⟨h1, h2, h3, h4⟩ := h
  obtain ⟨g1, g2, g3, g4⟩ := h'
  constructor
  · intro ⟨q1, q2⟩
    obtain ⟨a1, a2⟩ := enc_inj _ _ (fun i hi => h4 _ (by omega) (by omega)) (fun i hi => g4 _ (by omega) (by omega)) q1
    obtain ⟨b1, b2⟩ := enc_inj _ _ (fun i hi => h4 _ (by omega) (by omega)) (fun i hi => g4 _ (by omega) (by omega)) q2
    refine ⟨by omega, fun i hi => ?_⟩
    by_cases c : i < 12
    · exact a2 i (by omega)
    · have := b2 (i - 12) (by omega)
      rw [show s + 12 + (i - 12) = s + i by omega, show s' + 12 + (i - 12) = s' + i by omega] at this
      exact this
  · intro ⟨q1, q2⟩
    have key : ∀ (d k : Nat), d + k ≤ e - s → enc T (s + d) k = enc T (s' + d) k := by
      intro d k
      induction k with
      | zero => intro _; rfl
      | succ k ih =>
        intro hk
        have := q2 (d + k) (by omega)
        rw [enc, enc, ih (by omega), Nat.add_assoc, Nat.add_assoc, this]
    unfold frn ren
    rw [← q1]
    have k0 := key 0 (min (e - s) 12) (by omega)
    rw [Nat.add_zero, Nat.add_zero] at k0
    refine ⟨k0, ?_⟩
    by_cases c : 12 ≤ e - s
    · exact key 12 (e - s - 12) (by omega)
    · rw [show e - s - 12 = 0 by omega]
      rfl
/-- the reference has scanned a token -/
def lxM (D : pD) (E : pDL) (T : Nat → Int32) (s e c : Nat) : Prop := D 100 0 5 = nI s ∧ D 100 0 6 = nI e ∧ D 100 0 3 = nI c ∧ (c = 1 → D 100 0 4 = kM T s e ∧ E 100 10 = lN (frn T s e) ∧ E 100 11 = lN (ren T s e)) ∧ (c = 2 → D 100 0 7 = nI (nv T s (e - s)))
theorem lset_lset (E : pDL) (k i : Nat) (x y : Int64) : lset (lset E k i x) k i y = lset E k i y := by
  funext k'
  unfold lset
  by_cases e : k' = k
  · rw [if_pos e, if_pos e, if_pos rfl]
    funext j
    by_cases q : j = i
    · rw [q, pk_uLs, pk_uLs]
    · rw [pk_uLn q, pk_uLn q, pk_uLn q]
  · rw [if_neg e, if_neg e, if_neg e]
theorem lset_comm (E : pDL) (k : Nat) {i j : Nat} (h : i ≠ j) (x y : Int64) : lset (lset E k i x) k j y = lset (lset E k j y) k i x := by
  funext k'
  unfold lset
  by_cases e : k' = k
  · rw [if_pos e, if_pos e, if_pos rfl, if_pos rfl]
    funext q
    by_cases q1 : q = i
    · have : q ≠ j := fun z => h (q1.symm.trans z)
      rw [pk_uLn this, q1, pk_uLs, pk_uLs]
    · by_cases q2 : q = j
      · rw [q2, pk_uLs, pk_uLn (fun z => h z.symm), pk_uLs]
      · rw [pk_uLn q2, pk_uLn q1, pk_uLn q1, pk_uLn q2]
  · rw [if_neg e, if_neg e, if_neg e, if_neg e]
theorem lset_at (E : pDL) (k i j : Nat) (x : Int64) : lset E k i x k j = if j = i then x else E k j := by
  rw [lset_eq]
  rfl
theorem lset_ne' {E : pDL} {k i k' : Nat} {x : Int64} (h : k' ≠ k) : lset E k i x k' = E k' := lset_ne h
/-- the reference's names while a word is scanned -/
def fE (E : pDL) (T : Nat → Int32) (s k : Nat) : pDL := lset (lset E 100 10 (lN (enc T s (min k 12)))) 100 11 (lN (enc T (s + 12) (min (k - 12) 12)))
theorem m1_small (D : pD) (E : pDL) : Mo_isSmall (-1) D E = some (some (.inl 0), D, E) := by rw [e_Mo_isSmall, if_pos (by decide)]
theorem m1_digit (D : pD) (E : pDL) : Mo_isDigit (-1) D E = some (some (.inl 0), D, E) := by rw [e_Mo_isDigit, if_pos (by decide)]
theorem M_scan {T : Nat → Int32} {n q s e c : Nat} {D : pD} {E : pDL} (hn : n ≤ 1200) (h8 : ∀ i, i < n → (T i).toInt8.toInt32 = T i) (h2 : D 100 0 2 = nI n) (hT : ∀ i, i < n → D 101 0 i = T i) (h6 : D 100 0 6 = nI q) (ht : Tok T n q s e c) : ∃ D' E', Mo_scan D E = some (none, D', E') ∧ Ko [100] D D' ∧ (∀ i, i ∉ [3, 4, 5, 6, 7] → D' 100 0 i = D 100 0 i) ∧ (∀ k, k ≠ 100 → E' k = E k) ∧ lxM D' E' T s e c := by
  have hle := ht.le
  obtain ⟨⟨r1, r2, r3, r4⟩, h3⟩ := ht
  have skip : Mo_scan D E = Mo_scan_5 (nI s) D E := by
    rw [e_Mo_scan, h6]
    refine zto (fun i => Mo_scan_5 (nI i) D E) q s r1 (fun i h1 h4 => ?_)
    show Mo_scan_5 _ _ _ = Mo_scan_5 _ _ _
    have see := M_see (E := E) hn h2 hT (show i < n by omega)
    rw [e_Mo_scan_5, see, B1s]
    rcases r3 i h1 h4 with z | z
    · rw [if_pos (show T i &&& 255 = 32 by rw [show (32 : Int32) = nI 32 from rfl, eq_s (h8 i (by omega)) (by omega)]; exact z), ca1]
    · have z32 : ¬ T i &&& 255 = 32 := by
        rw [show (32 : Int32) = nI 32 from rfl, eq_s (h8 i (by omega)) (by omega), z]
        decide
      rw [if_neg z32, see, B1s, if_pos (show T i &&& 255 = 10 by rw [show (10 : Int32) = nI 10 from rfl, eq_s (h8 i (by omega)) (by omega)]; exact z), ca1]
  rw [skip]
  have h2' : dset D 100 0 5 (nI s) 100 0 2 = nI n := by rw [dsA, if_neg (by decide), h2]
  have hT' : ∀ i, i < n → dset D 100 0 5 (nI s) 101 0 i = T i := fun i hi => by rw [dsN (by decide), hT i hi]
  have k5 : Ko [100] D (dset D 100 0 5 (nI s)) := Ko.rf.set (by decide) _ _ _
  rcases h3 with ⟨a1, a2, a3⟩ | ⟨a1, a2, a3, a5⟩ | ⟨a1, a2, a3, a5⟩ | ⟨a1, a2, a3, a4, a5⟩
  · have see := M_see_end (E := E) hn h2 (show n ≤ s by omega) (by omega)
    have see' := M_see_end (E := E) hn h2' (show n ≤ s by omega) (by omega)
    refine ⟨_, _, by rw [e_Mo_scan_5, see, B1s, if_neg (by decide), see, B1s, if_neg (by decide), see', B1s, if_pos rfl], ((k5.set (by decide) _ _ _).set (by decide) _ _ _).set (by decide) _ _ _, fun i hi => ?_, fun _ _ => rfl, ?_, ?_, ?_, fun z => absurd z (by omega), fun z => absurd z (by omega)⟩
    · simp only [List.mem_cons, List.not_mem_nil, or_false, not_or] at hi
      obtain ⟨i1, i2, i3, i4, i5⟩ := hi
      rw [dsA, if_neg i4, dsA, if_neg i1, dsA, if_neg i2, dsA, if_neg i3]
    · simp (disch := decide) only [dsA, sNe, if_true, if_false]
    · rw [dsA, if_pos rfl, a2]
    · rw [dsA, if_neg (by decide), dsA, if_pos rfl, a3]
      rfl
  all_goals
    have see := M_see (E := E) hn h2 hT a1
    have see' := M_see (E := E) hn h2' hT' a1
    have hb := r4 a1
    have z32 : ¬ T s &&& 255 = 32 := by
      rw [show (32 : Int32) = nI 32 from rfl, eq_s (h8 s a1) (by omega)]
      exact fun z => hb (Or.inl z)
    have z10 : ¬ T s &&& 255 = 10 := by
      rw [show (10 : Int32) = nI 10 from rfl, eq_s (h8 s a1) (by omega)]
      exact fun z => hb (Or.inr z)
    rw [e_Mo_scan_5, see, B1s, if_neg z32, see, B1s, if_neg z10, see', B1s, if_neg (ne_m1 (h8 s a1))]
    have k4 : Ko [100] D (dset (dset D 100 0 5 (nI s)) 100 0 4 (-1)) := k5.set (by decide) _ _ _
    generalize hD4 : dset (dset D 100 0 5 (nI s)) 100 0 4 (-1) = D4
    have f2 : D4 100 0 2 = nI n := by rw [← hD4, dsA, if_neg (by decide), h2']
    have fT : ∀ i, i < n → D4 101 0 i = T i := fun i hi => by rw [← hD4, dsN (by decide), hT' i hi]
    have f5 : D4 100 0 5 = nI s := by rw [← hD4, dsA, if_neg (by decide), dsA, if_pos rfl]
    have fo : ∀ i, i ∉ [3, 4, 5, 6, 7] → D4 100 0 i = D 100 0 i := by
      intro i hi
      simp only [List.mem_cons, List.not_mem_nil, or_false, not_or] at hi
      rw [← hD4, dsA, if_neg hi.2.1, dsA, if_neg hi.2.2.1]
    rw [hD4] at k4
  · obtain ⟨q1, q2, q3, q4⟩ := a3
    rw [(small_s (h8 s a1) D4 E).1 a2, B1s, if_neg (by decide)]
    have st0 : lset (lset E 100 10 (lN 0)) 100 11 (lN 0) = fE E T s 0 := rfl
    have run : Mo_scan_85 (nI s) (nI s) D4 (fE E T s (s - s)) = Mo_scan_85 (nI s) (nI e) D4 (fE E T s (e - s)) := by
      refine zto (fun i => Mo_scan_85 (nI s) (nI i) D4 (fE E T s (i - s))) s e q1 (fun i h1 h4 => ?_)
      show Mo_scan_85 _ _ _ _ = Mo_scan_85 _ _ _ _
      have hli := q3 i h1 h4
      obtain ⟨d, d1, d2, ed⟩ := ltr_of hli
      have seei := M_see (E := fE E T s (i - s)) hn f2 fT (show i < n by omega)
      have e255 : T i &&& 255 = nI d := by
        rw [eq_s (h8 i (by omega)) (by omega)]
        exact ed
      rw [e_Mo_scan_85, seei, B1s, (small_s (h8 i (by omega)) D4 _).1 hli, B1s, if_neg (by decide), pk_sub h1, seei, B1s, B1s, e255, ca1]
      simp (disch := omega) only [cl12, cn12, ct12, cu12, ce12, cf12, cl24, cn24, ct24, cu24, ce24, cf24]
      have si : i + 1 - s = (i - s) + 1 := by omega
      have g10 : fE E T s (i - s) 100 10 = lN (enc T s (min (i - s) 12)) := by
        unfold fE
        rw [lset_at, if_neg (by decide), lset_at, if_pos rfl]
      have g11 : fE E T s (i - s) 100 11 = lN (enc T (s + 12) (min (i - s - 12) 12)) := by
        unfold fE
        rw [lset_at, if_pos rfl]
      by_cases c12 : 12 ≤ i - s
      · rw [if_pos c12]
        by_cases c24 : 24 ≤ i - s
        · rw [if_pos c24]
          have : fE E T s (i + 1 - s) = fE E T s (i - s) := by
            unfold fE
            rw [si, Nat.min_eq_right (show 12 ≤ i - s + 1 by omega), Nat.min_eq_right c12, Nat.min_eq_right (show 12 ≤ i - s + 1 - 12 by omega), Nat.min_eq_right (show 12 ≤ i - s - 12 by omega)]
          rw [this]
        · rw [if_neg c24, g11, nI_l (by omega), lN_mul, lN_add, lN_sub (by omega), lN_add]
          have he : enc T (s + 12) (min (i + 1 - s - 12) 12) = 32 * enc T (s + 12) (min (i - s - 12) 12) + d - 97 + 1 := by
            rw [show min (i + 1 - s - 12) 12 = (i - s - 12) + 1 by omega, show min (i - s - 12) 12 = i - s - 12 by omega, enc, show s + 12 + (i - s - 12) = i by omega, ed, iC (by omega)]
            omega
          have : fE E T s (i + 1 - s) = lset (fE E T s (i - s)) 100 11 (lN (32 * enc T (s + 12) (min (i - s - 12) 12) + d - 97 + 1)) := by
            unfold fE
            rw [he, lset_lset, show min (i + 1 - s) 12 = min (i - s) 12 by omega]
          rw [this]
      · rw [if_neg c12, g10, nI_l (by omega), lN_mul, lN_add, lN_sub (by omega), lN_add]
        have he : enc T s (min (i + 1 - s) 12) = 32 * enc T s (min (i - s) 12) + d - 97 + 1 := by
          rw [show min (i + 1 - s) 12 = (i - s) + 1 by omega, show min (i - s) 12 = i - s by omega, enc, show s + (i - s) = i by omega, ed, iC (by omega)]
          omega
        have : fE E T s (i + 1 - s) = lset (fE E T s (i - s)) 100 10 (lN (32 * enc T s (min (i - s) 12) + d - 97 + 1)) := by
          unfold fE
          rw [he, lset_comm _ _ (show (11 : Nat) ≠ 10 by decide), lset_lset, show min (i + 1 - s - 12) 12 = min (i - s - 12) 12 by omega]
        rw [this]
    rw [Nat.sub_self] at run
    rw [st0, run]
    have hEk : ∀ k, k ≠ 100 → fE E T s (e - s) k = E k := fun k hk => by
      unfold fE
      rw [lset_ne' hk, lset_ne' hk]
    have hend : Mo_scan_85 (nI s) (nI e) D4 (fE E T s (e - s)) = if e - s ≤ 24 then Mo_scan_185 (nI s) (nI e) 1 D4 (fE E T s (e - s)) else Mo_scan_185 (nI s) (nI e) 0 D4 (fE E T s (e - s)) := by
      have hy : ∃ y, Mo_see (nI e) D4 (fE E T s (e - s)) = some (some (.inl y), D4, fE E T s (e - s)) ∧ Mo_isSmall y D4 (fE E T s (e - s)) = some (some (.inl 0), D4, fE E T s (e - s)) := by
        by_cases cn : e < n
        · exact ⟨_, M_see hn f2 fT cn, (small_s (h8 e cn) D4 _).2 (q4 cn)⟩
        · exact ⟨-1, M_see_end hn f2 (by omega) (by omega), m1_small _ _⟩
      obtain ⟨y, y1, y2⟩ := hy
      rw [e_Mo_scan_85, y1, B1s, y2, B1s, if_pos rfl, pk_sub q1]
      by_cases c24 : e - s ≤ 24
      · rw [if_pos (nnl' 24 c24 (by omega)), if_pos c24]
      · rw [if_neg (nle_of' 24 (by omega) (by omega)), if_neg c24]
    rw [hend]
    by_cases c24 : e - s ≤ 24
    · rw [if_pos c24] at a5 ⊢
      have g2 : dset D4 100 0 3 1 100 0 2 = nI n := by rw [dsA, if_neg (by decide), f2]
      have gT : ∀ i, i < n → dset D4 100 0 3 1 101 0 i = T i := fun i hi => by rw [dsN (by decide), fT i hi]
      refine ⟨_, _, by rw [e_Mo_scan_185, if_pos rfl, pk_sub q1, M_key hn h8 g2 gT q1 q2, B1s], ((k4.set (by decide) _ _ _).set (by decide) _ _ _).set (by decide) _ _ _, fun i hi => ?_, hEk, ?_, ?_, ?_, fun _ => ⟨?_, ?_, ?_⟩, fun z => absurd z (by omega)⟩
      · have hi' := hi
        simp only [List.mem_cons, List.not_mem_nil, or_false, not_or] at hi
        obtain ⟨i1, i2, i3, i4, i5⟩ := hi
        rw [dsA, if_neg i4, dsA, if_neg i2, dsA, if_neg i1, fo i hi']
      · rw [dsA, if_neg (by decide), dsA, if_neg (by decide), dsA, if_neg (by decide), f5]
      · rw [dsA, if_pos rfl]
      · rw [dsA, if_neg (by decide), dsA, if_neg (by decide), dsA, if_pos rfl, a5]
        rfl
      · rw [dsA, if_neg (by decide), dsA, if_pos rfl]
      · unfold fE
        rw [lset_at, if_neg (by decide), lset_at, if_pos rfl]
        rfl
      · unfold fE
        rw [lset_at, if_pos rfl, show min (e - s - 12) 12 = e - s - 12 by omega]
        rfl
    · rw [if_neg c24] at a5 ⊢
      refine ⟨_, _, by rw [e_Mo_scan_185, if_neg (by decide)], (k4.set (by decide) _ _ _).set (by decide) _ _ _, fun i hi => ?_, hEk, ?_, ?_, ?_, fun z => absurd z (by omega), fun z => absurd z (by omega)⟩
      · have hi' := hi
        simp only [List.mem_cons, List.not_mem_nil, or_false, not_or] at hi
        obtain ⟨i1, i2, i3, i4, i5⟩ := hi
        rw [dsA, if_neg i4, dsA, if_neg i1, fo i hi']
      · rw [dsA, if_neg (by decide), dsA, if_neg (by decide), f5]
      · rw [dsA, if_pos rfl]
      · rw [dsA, if_neg (by decide), dsA, if_pos rfl, a5]
        rfl
  · obtain ⟨q1, q2, q3, q4⟩ := a3
    have hse : s < e := by
      rcases Nat.lt_or_ge s e with z | z
      · exact z
      · have : e = s := by omega
        rw [this] at q4
        exact absurd a2 (q4 a1)
    have hnl : ¬ ltr (T s) := fun z => ltr_nd z a2
    obtain ⟨d0, d1, d2, ed0⟩ := dgt_of a2
    have e255 : T s &&& 255 = nI d0 := by
      rw [eq_s (h8 s a1) (by omega)]
      exact ed0
    rw [(small_s (h8 s a1) D4 E).2 hnl, B1s, if_pos rfl, (digit_s (h8 s a1) D4 E).1 a2, B1s, if_neg (by decide), e255, cs48 d1, ca1]
    have v1 : d0 - 48 = nv T s (min (s + 1 - s) 3) := by
      rw [show min (s + 1 - s) 3 = 0 + 1 by omega, nv, nv, Nat.add_zero, ed0, iC (by omega)]
      omega
    rw [v1]
    have run : Mo_scan_226 (nI s) (nI (s + 1)) (dset D4 100 0 7 (nI (nv T s (min (s + 1 - s) 3)))) E = Mo_scan_226 (nI s) (nI e) (dset D4 100 0 7 (nI (nv T s (min (e - s) 3)))) E := by
      refine zto (fun i => Mo_scan_226 (nI s) (nI i) (dset D4 100 0 7 (nI (nv T s (min (i - s) 3)))) E) (s + 1) e hse (fun i h1 h4 => ?_)
      show Mo_scan_226 _ _ _ _ = Mo_scan_226 _ _ _ _
      have hdi := q3 i (by omega) h4
      obtain ⟨d, g1, g2, ed⟩ := dgt_of hdi
      have m2 : dset D4 100 0 7 (nI (nv T s (min (i - s) 3))) 100 0 2 = nI n := by rw [dsA, if_neg (by decide), f2]
      have mT : ∀ j, j < n → dset D4 100 0 7 (nI (nv T s (min (i - s) 3))) 101 0 j = T j := fun j hj => by rw [dsN (by decide), fT j hj]
      have m7 : dset D4 100 0 7 (nI (nv T s (min (i - s) 3))) 100 0 7 = nI (nv T s (min (i - s) 3)) := by rw [dsA, if_pos rfl]
      have seei := M_see (E := E) hn m2 mT (show i < n by omega)
      have e255i : T i &&& 255 = nI d := by
        rw [eq_s (h8 i (by omega)) (by omega)]
        exact ed
      rw [e_Mo_scan_226, seei, B1s, (digit_s (h8 i (by omega)) _ _).1 hdi, B1s, if_neg (by decide), pk_sub (show s ≤ i by omega), m7, ca1]
      by_cases c3 : 3 ≤ i - s
      · rw [if_pos (nlE 3 c3 (by omega)), dset_dset, show min (i + 1 - s) 3 = min (i - s) 3 by omega]
      · rw [if_neg (nle 3 (k := i - s) (by omega) (by omega)), seei, B1s, e255i, show (10 : Int32) * nI (nv T s (min (i - s) 3)) = nI (10 * nv T s (min (i - s) 3)) from pk_mul 10 _, nI_add, cs48 (by omega), dset_dset]
        have : nv T s (min (i + 1 - s) 3) = 10 * nv T s (min (i - s) 3) + d - 48 := by
          rw [show min (i + 1 - s) 3 = (i - s) + 1 by omega, show min (i - s) 3 = i - s by omega, nv, show s + (i - s) = i by omega, ed, iC (by omega)]
          omega
        rw [this]
    rw [run]
    have m2 : dset D4 100 0 7 (nI (nv T s (min (e - s) 3))) 100 0 2 = nI n := by rw [dsA, if_neg (by decide), f2]
    have mT : ∀ j, j < n → dset D4 100 0 7 (nI (nv T s (min (e - s) 3))) 101 0 j = T j := fun j hj => by rw [dsN (by decide), fT j hj]
    have hy : ∃ y, Mo_see (nI e) (dset D4 100 0 7 (nI (nv T s (min (e - s) 3)))) E = some (some (.inl y), dset D4 100 0 7 (nI (nv T s (min (e - s) 3))), E) ∧ Mo_isDigit y (dset D4 100 0 7 (nI (nv T s (min (e - s) 3)))) E = some (some (.inl 0), dset D4 100 0 7 (nI (nv T s (min (e - s) 3))), E) := by
      by_cases cn : e < n
      · exact ⟨_, M_see hn m2 mT cn, (digit_s (h8 e cn) _ _).2 (q4 cn)⟩
      · exact ⟨-1, M_see_end hn m2 (by omega) (by omega), m1_digit _ _⟩
    obtain ⟨y, y1, y2⟩ := hy
    have k7 := k4.set (show 100 ∈ [100] by decide) 0 7 (nI (nv T s (min (e - s) 3)))
    have fin : ∀ x : Int32, (∀ i, i ∉ [3, 4, 5, 6, 7] → dset (dset (dset D4 100 0 7 (nI (nv T s (min (e - s) 3)))) 100 0 3 x) 100 0 6 (nI e) 100 0 i = D 100 0 i) := by
      intro x i hi
      have hi' := hi
      simp only [List.mem_cons, List.not_mem_nil, or_false, not_or] at hi
      obtain ⟨i1, i2, i3, i4, i5⟩ := hi
      rw [dsA, if_neg i4, dsA, if_neg i1, dsA, if_neg i5, fo i hi']
    rw [e_Mo_scan_226, y1, B1s, y2, B1s, if_pos rfl, pk_sub q1]
    by_cases c3 : e - s ≤ 3
    · rw [if_pos c3] at a5
      rw [if_pos (nnl' 3 c3 (by omega))]
      refine ⟨_, _, rfl, (k7.set (by decide) _ _ _).set (by decide) _ _ _, fin 2, fun _ _ => rfl, ?_, ?_, ?_, fun z => absurd z (by omega), fun _ => ?_⟩
      · rw [dsA, if_neg (by decide), dsA, if_neg (by decide), dsA, if_neg (by decide), f5]
      · rw [dsA, if_pos rfl]
      · rw [dsA, if_neg (by decide), dsA, if_pos rfl, a5]
        rfl
      · rw [dsA, if_neg (by decide), dsA, if_neg (by decide), dsA, if_pos rfl, show min (e - s) 3 = e - s by omega]
    · rw [if_neg c3] at a5
      rw [if_neg (nle_of' 3 (by omega) (by omega))]
      refine ⟨_, _, rfl, (k7.set (by decide) _ _ _).set (by decide) _ _ _, fin 0, fun _ _ => rfl, ?_, ?_, ?_, fun z => absurd z (by omega), fun z => absurd z (by omega)⟩
      · rw [dsA, if_neg (by decide), dsA, if_neg (by decide), dsA, if_neg (by decide), f5]
      · rw [dsA, if_pos rfl]
      · rw [dsA, if_neg (by decide), dsA, if_pos rfl, a5]
        rfl
  · rw [(small_s (h8 s a1) D4 E).2 a2, B1s, if_pos rfl, (digit_s (h8 s a1) D4 E).2 a3, B1s, if_pos rfl, ca1]
    have q59 : (T s &&& 255 = 59) = (T s = 59) := eq_s (h8 s a1) (k := 59) (by omega)
    have q45 : (T s &&& 255 = 45) = (T s = 45) := eq_s (h8 s a1) (k := 45) (by omega)
    simp only [q59, q45]
    have fin : ∀ x : Int32, x = nI c → c ≠ 1 → c ≠ 2 → ∃ D' E', (some (none, dset (dset D4 100 0 3 x) 100 0 6 (nI (s + 1)), E) : Option pRes) = some (none, D', E') ∧ Ko [100] D D' ∧ (∀ i, i ∉ [3, 4, 5, 6, 7] → D' 100 0 i = D 100 0 i) ∧ (∀ k, k ≠ 100 → E' k = E k) ∧ lxM D' E' T s e c := by
      intro x hx hc1 hc2
      refine ⟨_, _, rfl, (k4.set (by decide) _ _ _).set (by decide) _ _ _, fun i hi => ?_, fun _ _ => rfl, ?_, ?_, ?_, fun z => absurd z hc1, fun z => absurd z hc2⟩
      · have hi' := hi
        simp only [List.mem_cons, List.not_mem_nil, or_false, not_or] at hi
        obtain ⟨i1, i2, i3, i4, i5⟩ := hi
        rw [dsA, if_neg i4, dsA, if_neg i1, fo i hi']
      · rw [dsA, if_neg (by decide), dsA, if_neg (by decide), f5]
      · rw [dsA, if_pos rfl, a4]
      · rw [dsA, if_neg (by decide), dsA, if_pos rfl, hx]
    by_cases c1 : T s = 59
    · rw [if_pos c1] at a5
      rw [if_pos c1]
      exact fin 3 (by rw [a5]; rfl) (by omega) (by omega)
    · rw [if_neg c1] at a5
      rw [if_neg c1]
      by_cases c2 : T s = 45
      · rw [if_pos c2] at a5
        rw [if_pos c2]
        exact fin 4 (by rw [a5]; rfl) (by omega) (by omega)
      · rw [if_neg c2] at a5
        rw [if_neg c2]
        exact fin 0 (by rw [a5]; rfl) (by omega) (by omega)

/-! best: the search of the class finds the first row that loses least -/
def sE (D : pD) (b m : Nat) (L : Nat → Nat → Nat) (G : Nat → Nat → Nat → Nat → Bool) : Prop := 0 < b ∧ b ≤ 21 ∧ m ≤ 4 ∧ D 50 0 7 = nI m ∧ D 50 0 8 = nI b ∧ (∀ k, k < m → ∀ a, a < b → D 52 (k + 1) a = nI (L k a) ∧ L k a ≤ 42867) ∧ ∀ k l, k < l → l < m → ∀ a, a < b → ∀ c, c < b → bt (D 53 (k * 4 + l + 1) a) c = G k l a c
def Kf (D D1 : pD) : Prop := Ko [50, 54, 55, 56] D D1 ∧ ∀ i, i ≠ 9 → D1 50 0 i = D 50 0 i
theorem sE.kf {D D1 : pD} {b m : Nat} {L : Nat → Nat → Nat} {G : Nat → Nat → Nat → Nat → Bool} (h : sE D b m L G) (hk : Kf D D1) : sE D1 b m L G := by
  obtain ⟨h1, h2, h3, h4, h5, h6, h7⟩ := h
  refine ⟨h1, h2, h3, by rw [hk.2 7 (by decide), h4], by rw [hk.2 8 (by decide), h5], ?_, ?_⟩
  · rw [hk.1 52 (by decide)]
    exact h6
  · rw [hk.1 53 (by decide)]
    exact h7
/-- the least that is open -/
def mo (L : Nat → Nat) (op : Int32) : Nat → Nat
  | 0 => NW
  | a + 1 => if bt op a = true then (if L a < mo L op a then L a else mo L op a) else mo L op a
theorem mo_le (L : Nat → Nat) (op : Int32) : ∀ n, mo L op n ≤ NW
  | 0 => Nat.le_refl _
  | n + 1 => by
    have := mo_le L op n
    rw [mo]
    split
    · split <;> omega
    · exact this
theorem mo_at (L : Nat → Nat) (op : Int32) : ∀ n a, a < n → bt op a = true → mo L op n ≤ L a
  | 0, a, h, _ => absurd h (by omega)
  | n + 1, a, h, hb => by
    rw [mo]
    by_cases e : a = n
    · subst e
      rw [if_pos hb]
      split <;> omega
    · have := mo_at L op n a (by omega) hb
      split
      · split <;> omega
      · exact this
theorem X_leastOf {D : pD} {E : pDL} {b m : Nat} {L : Nat → Nat → Nat} {G : Nat → Nat → Nat → Nat → Bool} (h : sE D b m L G) {k : Nat} (hk : k < m) (op : Int32) : Se_leastOf (nI k) op D E = some (some (.inl (nI (mo (L k) op b))), D, E) := by
  obtain ⟨h1, h2, h3, h4, h5, h6, h7⟩ := h
  rw [e_Se_leastOf]
  refine (z0 (fun a => Se_leastOf_6 (nI k) op (nI (mo (L k) op a)) (nI a) D E) b (fun a ha => ?_)).trans ?_
  · show Se_leastOf_6 _ _ _ _ _ _ = Se_leastOf_6 _ _ _ _ _ _
    have hmo := mo_le (L k) op a
    have hNW : NW = 16777216 := rfl
    obtain ⟨l1, l2⟩ := h6 k hk a ha
    rw [e_Se_leastOf_6, mo, h5]
    by_cases c : bt op a = true
    · have c' : ¬ (op >>> (nI a &&& 31)) &&& 1 = 0 := fun z => by rw [bit0 (by omega), c] at z; cases z
      simp (disch := omega) only [sC, sN, sN0, sLL, sTT, sEE, sM1, sF, sGt, sLe, sLt, sNe, or_false, or_true, false_or, true_or, or_self, if_true, if_false, not_true_eq_false, not_false_eq_true, B1s, B0s, B2s, c', c, l1, ca1]
      by_cases c2 : L k a < mo (L k) op a
      · rw [if_pos c2, if_pos c2]
      · rw [if_neg c2, if_neg c2]
    · have c' : (op >>> (nI a &&& 31)) &&& 1 = 0 := (bit0 (by omega)).mpr (by simpa using c)
      simp (disch := omega) only [sC, sN, sN0, sLL, sTT, sEE, sM1, sF, sGt, sLe, sLt, sNe, or_false, or_true, false_or, true_or, or_self, if_true, if_false, not_true_eq_false, not_false_eq_true, B1s, B0s, B2s, c', c, ca1, Bool.false_eq_true]
  · show Se_leastOf_6 _ _ _ _ _ _ = _
    rw [e_Se_leastOf_6, h5, if_pos (nI_le (Nat.le_refl _) (by omega))]
theorem dsJ {D : pD} {k j i k' j' : Nat} {x : Int32} (h : k' ≠ k ∨ j' ≠ j) : dset D k j i x k' j' = D k' j' := dset_ne (fun e => h.elim (fun z => z e.1) (fun z => z e.2))
theorem dsE {D : pD} {k j i q : Nat} {x : Int32} : dset D k j i x k j q = if q = i then x else D k j q := by
  rw [dset_eq]
  rfl
/-- narrow -/
theorem X_narrow_loop {b m : Nat} {L : Nat → Nat → Nat} {G : Nat → Nat → Nat → Nat → Bool} {E : pDL} {lvl o : Nat} (hl : lvl < m) (ho : o < b) : ∀ (n k s : Nat) (D : pD), k + n = m → lvl < k → s ≤ (k - lvl - 1) * NW → sE D b m L G → ∃ D2, Se_narrow_7 (nI lvl) (nI o) (nI s) (nI k) D E = some (some (.inl (nI (s + nS (fun i => mo (L (k + i)) (D2 54 (lvl + 2) (k + i)) b) n))), D2, E) ∧ (∀ q j, (q ≠ 54 ∨ j ≠ lvl + 2) → D2 q j = D q j) ∧ (∀ q, k ≤ q → q < m → ∀ a, a < b → bt (D2 54 (lvl + 2) q) a = (bt (D 54 (lvl + 1) q) a && G lvl q o a)) ∧ ∀ q, q < k → D2 54 (lvl + 2) q = D 54 (lvl + 2) q
  | 0, k, s, D, hk, hlk, hs, h => by
    obtain ⟨h1, h2, h3, h4, h5, h6, h7⟩ := h
    refine ⟨D, ?_, fun _ _ _ => rfl, fun q h1 h2 => absurd h2 (by omega), fun _ _ => rfl⟩
    rw [e_Se_narrow_7, h4, if_pos (nI_le (by omega) (by omega)), nS, Nat.add_zero]
  | n + 1, k, s, D, hk, hlk, hs, h => by
    have hNW : NW = 16777216 := rfl
    have hm := h.2.2.1
    have hb21 := h.2.1
    let op : Int32 := D 54 (lvl + 1) k &&& D 53 (lvl * 4 + k + 1) o
    have h' : sE (dset D 54 (lvl + 2) k op) b m L G := by
      obtain ⟨h1, h2, h3, h4, h5, h6, h7⟩ := h
      refine ⟨h1, h2, h3, by rw [dsJ (Or.inl (by decide))]; exact h4, by rw [dsJ (Or.inl (by decide))]; exact h5, fun q hq a ha => by rw [dsJ (Or.inl (by decide))]; exact h6 q hq a ha, fun q l h1 h2 a ha c hc => by rw [dsJ (Or.inl (by decide))]; exact h7 q l h1 h2 a ha c hc⟩
    have hle := X_leastOf (E := E) h' (show k < m by omega) op
    have hmo := mo_le (L k) op b
    have hs2 : s ≤ 3 * NW := Nat.le_trans hs (Nat.mul_le_mul_right _ (by omega))
    obtain ⟨D2, r1, r2, r3, r4⟩ := X_narrow_loop (E := E) hl ho n (k + 1) (s + mo (L k) op b) (dset D 54 (lvl + 2) k op) (by omega) (by omega) (by
      have : (k + 1 - lvl - 1) * NW = (k - lvl - 1) * NW + NW := by rw [show k + 1 - lvl - 1 = (k - lvl - 1) + 1 by omega, Nat.succ_mul]
      omega) h'
    have e54 : D2 54 (lvl + 2) k = op := by rw [r4 k (by omega), dsE, if_pos rfl]
    refine ⟨D2, ?_, fun q j hq => ?_, fun q q1 q2 a ha => ?_, fun q hq => ?_⟩
    · rw [e_Se_narrow_7, h.2.2.2.1]
      simp (disch := omega) only [sC, sN, sN0, sLL, sTT, sEE, sM1, sF, sGt, sLe, sLt, sNe, or_false, or_true, false_or, true_or, or_self, if_true, if_false, not_true_eq_false, not_false_eq_true, B1s, B0s, B2s, ca1, cm4, nI_add]
      have hop : dset D 54 (lvl + 1 + 1) k (D 54 (lvl + 1) k &&& D 53 (lvl * 4 + k + 1) o) = dset D 54 (lvl + 2) k op := rfl
      rw [hop, show D 54 (lvl + 1) k &&& D 53 (lvl * 4 + k + 1) o = op from rfl, hle, B1s, nI_add, r1, nS_shift]
      simp only [Nat.add_zero]
      rw [e54]
      have e : nS (fun i => mo (L (k + 1 + i)) (D2 54 (lvl + 2) (k + 1 + i)) b) n = nS (fun i => mo (L (k + (i + 1))) (D2 54 (lvl + 2) (k + (i + 1))) b) n := nS_cong (fun i _ => by rw [show k + 1 + i = k + (i + 1) by omega])
      rw [e, Nat.add_assoc]
    · rw [r2 q j hq, dsJ hq]
    · by_cases e : q = k
      · subst e
        rw [e54]
        show bt (D 54 (lvl + 1) q &&& D 53 (lvl * 4 + q + 1) o) a = _
        rw [b_and, h.2.2.2.2.2.2 lvl q (by omega) q2 o ho a ha]
      · rw [r3 q (by omega) q2 a ha, dsJ (Or.inr (by omega))]
    · rw [r4 q (by omega), dsE, if_neg (by omega)]
theorem X_narrow {b m : Nat} {L : Nat → Nat → Nat} {G : Nat → Nat → Nat → Nat → Bool} {D : pD} {E : pDL} {lvl o : Nat} (hl : lvl < m) (ho : o < b) (h : sE D b m L G) : ∃ D2, Se_narrow (nI lvl) (nI o) D E = some (some (.inl (nI (nS (fun i => mo (L (lvl + 1 + i)) (D2 54 (lvl + 2) (lvl + 1 + i)) b) (m - (lvl + 1))))), D2, E) ∧ (∀ q j, (q ≠ 54 ∨ j ≠ lvl + 2) → D2 q j = D q j) ∧ ∀ q, lvl + 1 ≤ q → q < m → ∀ a, a < b → bt (D2 54 (lvl + 2) q) a = (bt (D 54 (lvl + 1) q) a && G lvl q o a) := by
  obtain ⟨D2, r1, r2, r3, -⟩ := X_narrow_loop (E := E) hl ho (m - (lvl + 1)) (lvl + 1) 0 D (by omega) (by omega) (Nat.zero_le _) h
  refine ⟨D2, ?_, r2, r3⟩
  rw [Nat.zero_add] at r1
  rw [e_Se_narrow, ca1]
  exact r1
theorem nS_le2 {f : Nat → Nat} {B : Nat} {n N : Nat} (h : ∀ k, k < n → f k ≤ B) (hn : n ≤ N) : nS f n ≤ N * B := Nat.le_trans (nS_le h) (Nat.mul_le_mul_right _ hn)
/-- the first lvl options go together -/
def pok (b : Nat) (A : Nat → Nat → Bool) (G : Nat → Nat → Nat → Nat → Bool) (lvl v : Nat) : Prop := ∀ k, k < lvl → A k (dg b lvl v k) = true ∧ ∀ l, k < l → l < lvl → G k l (dg b lvl v k) (dg b lvl v l) = true
theorem pok_next {b : Nat} {A : Nat → Nat → Bool} {G : Nat → Nat → Nat → Nat → Bool} {lvl v o : Nat} (ho : o < b) (h : pok b A G lvl v) (ha : alw b A G lvl v lvl o) : pok b A G (lvl + 1) (v * b + o) := by
  intro k hk
  by_cases e : k = lvl
  · subst e
    rw [dg_last ho]
    exact ⟨ha.1, fun l h1 h2 => absurd h1 (by omega)⟩
  · rw [dg_next ho (by omega)]
    refine ⟨(h k (by omega)).1, fun l h1 h2 => ?_⟩
    by_cases e2 : l = lvl
    · subst e2
      rw [dg_last ho]
      exact ha.2 k (by omega)
    · rw [dg_next ho (by omega)]
      exact (h k (by omega)).2 l h1 (by omega)
/-- what holds at a level -/
def sI_ (D D1 : pD) (b m : Nat) (L : Nat → Nat → Nat) (A : Nat → Nat → Bool) (G : Nat → Nat → Nat → Nat → Bool) (lvl v le : Nat) (R : Nat → Nat) : Prop := Kf D D1 ∧ (∀ k, lvl ≤ k → k < m → ∀ a, a < b → (bt (D1 54 (lvl + 1) k) a = true ↔ alw b A G lvl v k a)) ∧ (∀ k, k < lvl → D1 55 0 k = nI (dg b lvl v k)) ∧ D1 50 0 9 = nI le ∧ (le ≠ NW → ∀ k, k < m → D1 56 0 k = nI (R k))
theorem cpy_4 {f g : Nat → Int32} {p : Nat} (h : p < 4) : va_cpy f g 0 0 4 p = f p := by
  unfold va_cpy
  rw [if_pos (by omega), show 0 + (p - 0) = p by omega]
theorem X_settle {b m : Nat} {L : Nat → Nat → Nat} {A : Nat → Nat → Bool} {G : Nat → Nat → Nat → Nat → Bool} {D : pD} {E : pDL} (h : sE D b m L G) (hm : ∀ j, rcost b m L j < NW) : ∀ (n lvl v dd : Nat) (D1 : pD) (le : Nat) (R : Nat → Nat), lvl + n = m → v < b ^ lvl → sI_ D D1 b m L A G lvl v le R → IsB b m L A G (v * b ^ n) le R → pok b A G lvl v → (n = 0 → psum b L lvl v < le) → ∃ D2 le' R', Se_settle (dd + 2 + n) (nI lvl) (nI (psum b L lvl v)) D1 E = some (none, D2, E) ∧ Kf D D2 ∧ (∀ i, i ≤ lvl → D2 54 (i + 1) = D1 54 (i + 1)) ∧ (∀ k, k < lvl → D2 55 0 k = D1 55 0 k) ∧ D2 50 0 9 = nI le' ∧ (le' ≠ NW → ∀ k, k < m → D2 56 0 k = nI (R' k)) ∧ IsB b m L A G ((v + 1) * b ^ n) le' R' := by
  have hNW : NW = 16777216 := rfl
  have hm4 := h.2.2.1
  have hb0 := h.1
  have hb21 := h.2.1
  intro n
  induction n with
  | zero =>
    intro lvl v dd D1 le R hl hv hs hi hp h0
    obtain rfl : lvl = m := by omega
    obtain ⟨s1, s2, s3, s4, s5⟩ := hs
    have hE := h.kf s1
    have ep : psum b L lvl v = rcost b lvl L v := rfl
    have hf : rfree b lvl A G v := hp
    have hk2 : Kf D (dcpy (dset D1 50 0 9 (nI (psum b L lvl v))) 55 0 56 0 4) := by
      refine ⟨(s1.1.set (by decide) _ _ _).cpy (by decide) _ _ _ _, fun i hi => ?_⟩
      rw [dcN (by decide), dsA, if_neg hi]
      exact s1.2 i hi
    refine ⟨dcpy (dset D1 50 0 9 (nI (psum b L lvl v))) 55 0 56 0 4, psum b L lvl v, dg b lvl v, ?_, hk2, fun i _ => ?_, fun k _ => ?_, ?_, fun _ k hk => ?_, ?_⟩
    · rw [e2_Se_settle, hE.2.2.2.1, if_neg (nI_nlt (Nat.le_refl _) (by omega))]
    · rw [dcN (by decide), dsJ (Or.inl (by decide))]
    · rw [dcN (by decide), dsN (by decide)]
    · rw [dcN (by decide), dsA, if_pos rfl]
    · rw [dcE, cpy_4 (by omega), dsN (by decide), s3 k hk]
    · rw [Nat.pow_zero, Nat.mul_one] at hi ⊢
      rw [ep]
      exact hi.new hf (h0 rfl) (fun k _ => rfl)
  | succ n ih =>
    intro lvl v dd D1 le R hl hv hs hi hp h0
    have hlm : lvl < m := by omega
    have hps : psum b L lvl v ≤ 4 * 42867 := nS_le2 (fun k hk => (h.2.2.2.2.2.1 k (by omega) _ (dg_lt hb0)).2) (by omega)
    have loop : ∀ (q o : Nat) (D1 : pD) (le : Nat) (R : Nat → Nat), o + q = b → sI_ D D1 b m L A G lvl v le R → IsB b m L A G ((v * b + o) * b ^ n) le R → ∃ D2 le' R', Se_settle_30 (dd + 2 + (n + 1)) (nI lvl) (nI (psum b L lvl v)) (nI o) D1 E = some (none, D2, E) ∧ Kf D D2 ∧ (∀ i, i ≤ lvl → D2 54 (i + 1) = D1 54 (i + 1)) ∧ (∀ k, k < lvl → D2 55 0 k = D1 55 0 k) ∧ D2 50 0 9 = nI le' ∧ (le' ≠ NW → ∀ k, k < m → D2 56 0 k = nI (R' k)) ∧ IsB b m L A G ((v * b + b) * b ^ n) le' R' := by
      intro q
      induction q with
      | zero =>
        intro o D1 le R hq hs hi
        obtain rfl : o = b := by omega
        obtain ⟨s1, s2, s3, s4, s5⟩ := hs
        have hE := h.kf s1
        refine ⟨D1, le, R, ?_, s1, fun _ _ => rfl, fun _ _ => rfl, s4, s5, hi⟩
        rw [show dd + 2 + (n + 1) = (dd + n + 1) + 2 by omega, e2_Se_settle_30, hE.2.2.2.2.1, if_pos (nI_le (Nat.le_refl _) (by omega))]
      | succ q ihq =>
        intro o D1 le R hq hs hi
        have ho : o < b := by omega
        have hs' := hs
        obtain ⟨s1, s2, s3, s4, s5⟩ := hs
        have hE := h.kf s1
        have hle : le ≤ NW := hi.le hm
        obtain ⟨l1, l2⟩ := hE.2.2.2.2.2.1 lvl hlm o ho
        have en : (v * b + (o + 1)) * b ^ n = (v * b + o + 1) * b ^ n := by rw [Nat.add_assoc]
        have inblk : ∀ j, (v * b + o) * b ^ n ≤ j → j < (v * b + o + 1) * b ^ n → j / b ^ (m - (lvl + 1)) = v * b + o := by
          intro j h1 h2
          rw [show m - (lvl + 1) = n by omega]
          exact blk h1 h2
        have inblk2 : ∀ j, (v * b + o) * b ^ n ≤ j → j < (v * b + o + 1) * b ^ n → j / b ^ (m - lvl) = v := by
          intro j h1 h2
          have e := inblk j h1 h2
          rw [show m - lvl = (m - (lvl + 1)) + 1 by omega, Nat.pow_succ, ← Nat.div_div_eq_div_mul, e, Nat.mul_comm, Nat.mul_add_div hb0, Nat.div_eq_of_lt ho, Nat.add_zero]
        have dlast : ∀ j, (v * b + o) * b ^ n ≤ j → j < (v * b + o + 1) * b ^ n → dg b m j lvl = o := by
          intro j h1 h2
          rw [dg_block (lvl := lvl + 1) (by omega) (by omega) (inblk j h1 h2), dg_last ho]
        by_cases c : bt (D1 54 (lvl + 1) lvl) o = true
        · have ha := (s2 lvl (Nat.le_refl _) hlm o ho).mp c
          have c' : ¬ (D1 54 (lvl + 1) lvl >>> (nI o &&& 31)) &&& 1 = 0 := fun z => by rw [bit0 (by omega), c] at z; cases z
          have hE1 : sE (dset D1 55 0 lvl (nI o)) b m L G := hE.kf ⟨Ko.rf.set (by decide) _ _ _, fun i _ => by rw [dsN (by decide)]⟩
          obtain ⟨D2, r1, r2, r3⟩ := X_narrow (E := E) hlm ho hE1
          have k2 : Kf D D2 := by
            refine ⟨fun k hk => ?_, fun i hi => ?_⟩
            · funext j
              rw [r2 k j (Or.inl (fun z => hk (by rw [z]; decide))), dsN (fun z => hk (by rw [z]; decide)), s1.1 k hk]
            · rw [r2 50 0 (Or.inl (by decide)), dsN (by decide), s1.2 i hi]
          have f9 : D2 50 0 9 = nI le := by rw [r2 50 0 (Or.inl (by decide)), dsN (by decide), s4]
          have f56 : le ≠ NW → ∀ k, k < m → D2 56 0 k = nI (R k) := fun z k hk => by rw [r2 56 0 (Or.inl (by decide)), dsN (by decide), s5 z k hk]
          have f54 : ∀ i, i ≤ lvl → D2 54 (i + 1) = D1 54 (i + 1) := fun i hi => by rw [r2 54 (i + 1) (Or.inr (by omega)), dsN (by decide)]
          have f55 : ∀ k, D2 55 0 k = if k = lvl then nI o else D1 55 0 k := fun k => by rw [r2 55 0 (Or.inl (by decide)), dsA]
          have hal : ∀ k, lvl + 1 ≤ k → k < m → ∀ a, a < b → (bt (D2 54 (lvl + 1 + 1) k) a = true ↔ alw b A G (lvl + 1) (v * b + o) k a) := by
            intro k h1 h2 a ha'
            rw [alw_next ho, r3 k h1 h2 a ha', dsJ (Or.inl (by decide)), Bool.and_eq_true, s2 k (by omega) h2 a ha']
          generalize hM : nS (fun i => mo (L (lvl + 1 + i)) (D2 54 (lvl + 2) (lvl + 1 + i)) b) (m - (lvl + 1)) = s at r1
          have hsb : s ≤ 3 * NW := by
            rw [← hM]
            exact nS_le2 (fun k _ => mo_le _ _ _) (by omega)
          have hstep : Se_settle_30 (dd + 2 + (n + 1)) (nI lvl) (nI (psum b L lvl v)) (nI o) D1 E = if le ≤ psum b L lvl v + L lvl o + s then Se_settle_30 (dd + 2 + (n + 1)) (nI lvl) (nI (psum b L lvl v)) (nI (o + 1)) D2 E else (pB0 (Se_settle (dd + 2 + n) (nI (lvl + 1)) (nI (psum b L (lvl + 1) (v * b + o))) D2 E) fun D3 E3 => Se_settle_30 (dd + 2 + (n + 1)) (nI lvl) (nI (psum b L lvl v)) (nI (o + 1)) D3 E3) := by
            rw [show dd + 2 + (n + 1) = (dd + n + 1) + 2 by omega, e2_Se_settle_30, hE.2.2.2.2.1, psum_next ho]
            simp (disch := omega) only [sC, sN, sN0, sLL, sTT, sEE, sM1, sF, sGt, sLe, sLt, sNe, or_false, or_true, false_or, true_or, or_self, if_true, if_false, not_true_eq_false, not_false_eq_true, B1s, B0s, B2s, c', l1, r1, f9, nI_add, ca1]
            rw [show dd + n + 1 + 1 = dd + 2 + n by omega]
          rw [hstep]
          by_cases cp : le ≤ psum b L lvl v + L lvl o + s
          · rw [if_pos cp]
            obtain ⟨D3, le', R', t1, t2, t3, t4, t5, t6, t7⟩ := ihq (o + 1) D2 le R (by omega) ⟨k2, fun k h1 h2 a ha' => by rw [f54 lvl (Nat.le_refl _)]; exact s2 k h1 h2 a ha', fun k hk => by rw [f55, if_neg (by omega), s3 k hk], f9, f56⟩ (by
              rw [en]
              refine hi.more (Nat.mul_le_mul_right _ (by omega)) hm (fun j h1 h2 hf => ?_)
              have hj := inblk j h1 h2
              have := cost_ge (b := b) (m := m) (L := L) (lvl := lvl + 1) (v := v * b + o) (j := j) (by omega) hj (fun k => mo (L k) (D2 54 (lvl + 2) k) b) (fun k h1 h2 => mo_at _ _ _ _ (dg_lt hb0) ((hal k h1 h2 _ (dg_lt hb0)).mpr (free_alw (by omega) hj hf h1 h2))) (m - (lvl + 1)) (by omega)
              rw [hM, show lvl + 1 + (m - (lvl + 1)) = m by omega, psum_next ho] at this
              exact Nat.le_trans cp this)
            exact ⟨D3, le', R', t1, t2, fun i hi => (t3 i hi).trans (f54 i hi), fun k hk => (t4 k hk).trans (by rw [f55, if_neg (by omega)]), t5, t6, t7⟩
          · rw [if_neg cp]
            obtain ⟨D3, le3, R3, t1, t2, t3, t4, t5, t6, t7⟩ := ih (lvl + 1) (v * b + o) dd D2 le R (by omega) (by
              rw [Nat.pow_succ]
              have h1 : (v + 1) * b ≤ b ^ lvl * b := Nat.mul_le_mul_right _ hv
              rw [Nat.succ_mul] at h1
              omega) ⟨k2, hal, fun k hk => by
                rw [f55]
                by_cases e : k = lvl
                · rw [if_pos e, e, dg_last ho]
                · rw [if_neg e, dg_next ho (by omega), s3 k (by omega)], f9, f56⟩ hi (pok_next ho hp ha) (fun z => by
                rw [psum_next ho]
                omega)
            rw [t1, B0s]
            obtain ⟨D4, le4, R4, u1, u2, u3, u4, u5, u6, u7⟩ := ihq (o + 1) D3 le3 R3 (by omega) ⟨t2, fun k h1 h2 a ha' => by rw [t3 lvl (by omega), f54 lvl (Nat.le_refl _)]; exact s2 k h1 h2 a ha', fun k hk => by rw [t4 k (by omega), f55, if_neg (by omega), s3 k hk], t5, t6⟩ (by rw [en]; exact t7)
            exact ⟨D4, le4, R4, u1, u2, fun i hi => ((u3 i hi).trans (t3 i (by omega))).trans (f54 i hi), fun k hk => ((u4 k hk).trans (t4 k (by omega))).trans (by rw [f55, if_neg (by omega)]), u5, u6, u7⟩
        · have c' : (D1 54 (lvl + 1) lvl >>> (nI o &&& 31)) &&& 1 = 0 := (bit0 (by omega)).mpr (by simpa using c)
          have hna : ¬ alw b A G lvl v lvl o := fun z => c ((s2 lvl (Nat.le_refl _) hlm o ho).mpr z)
          have hstep : Se_settle_30 (dd + 2 + (n + 1)) (nI lvl) (nI (psum b L lvl v)) (nI o) D1 E = Se_settle_30 (dd + 2 + (n + 1)) (nI lvl) (nI (psum b L lvl v)) (nI (o + 1)) D1 E := by
            rw [show dd + 2 + (n + 1) = (dd + n + 1) + 2 by omega, e2_Se_settle_30, hE.2.2.2.2.1]
            simp (disch := omega) only [sC, sN, sN0, sLL, sTT, sEE, sM1, sF, sGt, sLe, sLt, sNe, or_false, or_true, false_or, true_or, or_self, if_true, if_false, not_true_eq_false, not_false_eq_true, B1s, B0s, B2s, c', ca1]
          rw [hstep]
          refine ihq (o + 1) D1 le R (by omega) hs' ?_
          rw [en]
          refine hi.more (Nat.mul_le_mul_right _ (by omega)) hm (fun j h1 h2 hf => ?_)
          have := free_alw (by omega) (inblk2 j h1 h2) hf (Nat.le_refl lvl) hlm
          rw [dlast j h1 h2] at this
          exact absurd this hna
    obtain ⟨D2, le', R', t1, t2, t3, t4, t5, t6, t7⟩ := loop b 0 D1 le R (by omega) hs (by
      rw [Nat.add_zero, Nat.mul_assoc, Nat.mul_comm b, ← Nat.pow_succ]
      exact hi)
    refine ⟨D2, le', R', ?_, t2, t3, t4, t5, t6, ?_⟩
    · have hE := h.kf hs.1
      rw [show dd + 2 + (n + 1) = (dd + n + 1) + 2 by omega, e2_Se_settle, hE.2.2.2.1, if_pos (nI_lt hlm (by omega)), show dd + n + 1 + 2 = dd + 2 + (n + 1) by omega]
      exact t1
    · have e : (v + 1) * b ^ (n + 1) = (v * b + b) * b ^ n := by
        rw [Nat.pow_succ, Nat.mul_comm (b ^ n) b, ← Nat.mul_assoc, Nat.succ_mul]
      rw [e]
      exact t7

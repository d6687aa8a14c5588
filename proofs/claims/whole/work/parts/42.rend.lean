/-! A RENDERING of the class: what a choice has and loses -/
/-- the traits of a word (none for what is no word) -/
def tO (wt : Nat → Int32) (x : Int32) : Int32 := if x < 0 ∨ nI 20 ≤ x then 0 else wt x.toNatClampNeg
def tA (wt : Nat → Int32) (a b c : Int32) : Int32 := (tO wt a ||| tO wt b) ||| tO wt c
theorem in20 {x : Int32} (h0 : ¬ x < 0) (h1 : ¬ nI 20 ≤ x) : ¬ (x < 0 ∨ 20 ≤ x.toNatClampNeg) := by
  obtain ⟨j, hj, rfl⟩ := nI_of h0
  rw [iL (by omega) (by omega)] at h1
  exact iB (by omega) (by omega)
/-- what a choice loses: lack, add, long, borrow, weights, what bears, the notion's traits, what is noted, its traits, its kind, second and third words -/
def lA (la ad lo bo : Int32) (w : Nat → Int32) (be no nt x kd se th : Int32) : Int32 :=
  if kd = -1 then 0 else lT la ad w be no nt x + ((if se = -1 then 0 else 1) + (if th = -1 then 0 else 1)) * lo + (if kd = 3 then bo else 0)
/-- what holds of the book: the sums, places' notions, numbers -/
def BkOk (D : pD) : Prop := GS D ∧ (∀ p, p < 24 → vp_in (D 10 0 p) 12) ∧ ∃ cP : Nat, cP ≤ 24 ∧ D 4 0 2 = nI cP
theorem Rn_traitsOf_held_wordTraits_spec (x : Int32) (D : pD) (E : pDL) : Rn_traitsOf_held_wordTraits x D E = some (some (.inl (tO (D 9 0) x)), D, E) := by
  rw [e_Rn_traitsOf_held_wordTraits]
  unfold tO
  by_cases h0 : x < 0
  · rw [if_pos h0, if_pos (Or.inl h0)]
  · rw [if_neg h0]
    by_cases h1 : nI 20 ≤ x
    · rw [if_pos h1, if_pos (Or.inr h1)]
    · rw [if_neg h1, if_neg (in20 h0 h1), if_neg (fun q => q.elim h0 h1)]
theorem Rn_traitsOf_years_words_spec (x : Int32) (D : pD) (E : pDL) : Rn_traitsOf_years_words x D E = some (some (.inl (tO (D 63 0) x)), D, E) := by
  rw [e_Rn_traitsOf_years_words]
  unfold tO
  by_cases h0 : x < 0
  · rw [if_pos h0, if_pos (Or.inl h0)]
  · rw [if_neg h0]
    by_cases h1 : nI 20 ≤ x
    · rw [if_pos h1, if_pos (Or.inr h1)]
    · rw [if_neg h1, if_neg (in20 h0 h1), if_neg (fun q => q.elim h0 h1)]
theorem Rn_isChosen_spec {p : Nat} (hp : p < 24) (D : pD) (E : pDL) : Rn_isChosen (nI p) D E = some (some (.inl (if D 43 0 p = -1 then 0 else 1)), D, E) := by
  rw [e_Rn_isChosen, if_neg (iB hp (by omega)), iC (by omega)]
  split <;> rfl
theorem Rn_isBorrowed_spec {p : Nat} (hp : p < 24) (D : pD) (E : pDL) : Rn_isBorrowed (nI p) D E = some (some (.inl (if D 43 0 p = 3 then 1 else 0)), D, E) := by
  rw [e_Rn_isBorrowed, if_neg (iB hp (by omega)), iC (by omega)]
  split <;> rfl
theorem Rn_traitsAt_held_wordTraits_spec {p : Nat} (hp : p < 24) (D : pD) (E : pDL) : Rn_traitsAt_held_wordTraits (nI p) D E = some (some (.inl (tA (D 9 0) (D 44 0 p) (D 45 0 p) (D 46 0 p))), D, E) := by
  rw [e_Rn_traitsAt_held_wordTraits, if_neg (iB hp (by omega)), iC (by omega), Rn_traitsOf_held_wordTraits_spec, B1s, if_neg (by have := iB hp (N := 24) (by omega); rw [iC (by omega)] at this; exact this), Rn_traitsOf_held_wordTraits_spec, B1s, if_neg (by have := iB hp (N := 24) (by omega); rw [iC (by omega)] at this; exact this), Rn_traitsOf_held_wordTraits_spec, B1s]
  rfl
theorem Rn_lostAt_held_wordTraits_40_spec {p : Nat} (hp : p < 24) (a b : Int32) (D : pD) (E : pDL) (hB : BkOk D) : Rn_lostAt_held_wordTraits_40 (nI p) a b D E = some (some (.inl (lT (D 5 0 0) (D 5 0 1) (D 6 0) (D 11 0 p) (D 8 0 (pN D p)) (D 47 0 p) (tA (D 9 0) (D 44 0 p) (D 45 0 p) (D 46 0 p)) + (b + a) * D 5 0 3 + (if D 43 0 p = 3 then D 5 0 2 else 0))), D, E) := by
  rw [e_Rn_lostAt_held_wordTraits_40, Rn_traitsAt_held_wordTraits_spec hp, B1s, if_neg (iB hp (by omega)), iC (by omega), Bk_lostByTraits_spec hp _ _ _ _ hB.1 (hB.2.1 p hp), B1s, show (8 : Int32) = nI (3 + 5) from rfl, Bk_setting_spec (by omega), B1s, Rn_isBorrowed_spec hp, B1s]
  by_cases hk : D 43 0 p = 3
  · rw [if_pos hk, if_neg (by decide), show (7 : Int32) = nI (2 + 5) from rfl, Bk_setting_spec (by omega), B1s, if_pos hk]
  · rw [if_neg hk, if_pos rfl, if_neg hk]
theorem Rn_lostAt_held_wordTraits_spec {p : Nat} (hp : p < 24) (D : pD) (E : pDL) (hB : BkOk D) : Rn_lostAt_held_wordTraits (nI p) D E = some (some (.inl (lA (D 5 0 0) (D 5 0 1) (D 5 0 3) (D 5 0 2) (D 6 0) (D 11 0 p) (D 8 0 (pN D p)) (D 47 0 p) (tA (D 9 0) (D 44 0 p) (D 45 0 p) (D 46 0 p)) (D 43 0 p) (D 45 0 p) (D 46 0 p))), D, E) := by
  have hb : ¬ (nI p < 0 ∨ 24 ≤ p) := by have := iB hp (N := 24) (by omega); rw [iC (by omega)] at this; exact this
  have hc : (nI p).toNatClampNeg = p := iC (by omega)
  have h10 : ¬ (1 : Int32) = 0 := by decide
  rw [e_Rn_lostAt_held_wordTraits, Rn_isChosen_spec hp, B1s]
  unfold lA
  by_cases hk : D 43 0 p = -1
  · simp only [hk, if_true]
  · by_cases h2 : D 45 0 p = -1 <;> by_cases h3 : D 46 0 p = -1 <;> simp only [hk, h2, h3, hb, hc, h10, if_true, if_false] <;> rw [Rn_lostAt_held_wordTraits_40_spec hp _ _ _ _ hB] <;> simp only [h2, h3]
/-- LOST at a place -/
def Rn_lostAt_held_wordTraits_v (D : pD) (p : Nat) : Int32 := lA (D 5 0 0) (D 5 0 1) (D 5 0 3) (D 5 0 2) (D 6 0) (D 11 0 p) (D 8 0 (pN D p)) (D 47 0 p) (tA (D 9 0) (D 44 0 p) (D 45 0 p) (D 46 0 p)) (D 43 0 p) (D 45 0 p) (D 46 0 p)
theorem Rn_lostOfAll_held_wordTraits_loop {cP : Nat} (hc : cP ≤ 24) (D : pD) (E : pDL) (hB : BkOk D) (hP : D 4 0 2 = nI cP) : ∀ (n k : Nat), k + n = cP → Rn_lostOfAll_held_wordTraits_4 (iS (Rn_lostAt_held_wordTraits_v D) k) (nI k) D E = some (some (.inl (iS (Rn_lostAt_held_wordTraits_v D) cP)), D, E)
  | 0, k, h => by
    obtain rfl : k = cP := by omega
    rw [e_Rn_lostOfAll_held_wordTraits_4, hP, if_pos (nI_le (Nat.le_refl _) (by omega))]
  | n + 1, k, h => by
    rw [e_Rn_lostOfAll_held_wordTraits_4, hP, if_neg (nI_ge (by omega) (by omega)), Rn_lostAt_held_wordTraits_spec (by omega) _ _ hB, B1s, nI_1 k]
    exact Rn_lostOfAll_held_wordTraits_loop hc D E hB hP n (k + 1) (by omega)
theorem Rn_lostOfAll_held_wordTraits_spec {cP : Nat} (hc : cP ≤ 24) (D : pD) (E : pDL) (hB : BkOk D) (hP : D 4 0 2 = nI cP) : Rn_lostOfAll_held_wordTraits D E = some (some (.inl (iS (Rn_lostAt_held_wordTraits_v D) cP)), D, E) := by
  rw [e_Rn_lostOfAll_held_wordTraits]
  exact Rn_lostOfAll_held_wordTraits_loop hc D E hB hP cP 0 (by omega)
theorem Rn_traitsAt_years_words_spec {p : Nat} (hp : p < 24) (D : pD) (E : pDL) : Rn_traitsAt_years_words (nI p) D E = some (some (.inl (tA (D 63 0) (D 44 0 p) (D 45 0 p) (D 46 0 p))), D, E) := by
  rw [e_Rn_traitsAt_years_words, if_neg (iB hp (by omega)), iC (by omega), Rn_traitsOf_years_words_spec, B1s, if_neg (by have := iB hp (N := 24) (by omega); rw [iC (by omega)] at this; exact this), Rn_traitsOf_years_words_spec, B1s, if_neg (by have := iB hp (N := 24) (by omega); rw [iC (by omega)] at this; exact this), Rn_traitsOf_years_words_spec, B1s]
  rfl
theorem Rn_lostAt_years_words_40_spec {p : Nat} (hp : p < 24) (a b : Int32) (D : pD) (E : pDL) (hB : BkOk D) : Rn_lostAt_years_words_40 (nI p) a b D E = some (some (.inl (lT (D 5 0 0) (D 5 0 1) (D 6 0) (D 11 0 p) (D 8 0 (pN D p)) (D 47 0 p) (tA (D 63 0) (D 44 0 p) (D 45 0 p) (D 46 0 p)) + (b + a) * D 5 0 3 + (if D 43 0 p = 3 then D 5 0 2 else 0))), D, E) := by
  rw [e_Rn_lostAt_years_words_40, Rn_traitsAt_years_words_spec hp, B1s, if_neg (iB hp (by omega)), iC (by omega), Bk_lostByTraits_spec hp _ _ _ _ hB.1 (hB.2.1 p hp), B1s, show (8 : Int32) = nI (3 + 5) from rfl, Bk_setting_spec (by omega), B1s, Rn_isBorrowed_spec hp, B1s]
  by_cases hk : D 43 0 p = 3
  · rw [if_pos hk, if_neg (by decide), show (7 : Int32) = nI (2 + 5) from rfl, Bk_setting_spec (by omega), B1s, if_pos hk]
  · rw [if_neg hk, if_pos rfl, if_neg hk]
theorem Rn_lostAt_years_words_spec {p : Nat} (hp : p < 24) (D : pD) (E : pDL) (hB : BkOk D) : Rn_lostAt_years_words (nI p) D E = some (some (.inl (lA (D 5 0 0) (D 5 0 1) (D 5 0 3) (D 5 0 2) (D 6 0) (D 11 0 p) (D 8 0 (pN D p)) (D 47 0 p) (tA (D 63 0) (D 44 0 p) (D 45 0 p) (D 46 0 p)) (D 43 0 p) (D 45 0 p) (D 46 0 p))), D, E) := by
  have hb : ¬ (nI p < 0 ∨ 24 ≤ p) := by have := iB hp (N := 24) (by omega); rw [iC (by omega)] at this; exact this
  have hc : (nI p).toNatClampNeg = p := iC (by omega)
  have h10 : ¬ (1 : Int32) = 0 := by decide
  rw [e_Rn_lostAt_years_words, Rn_isChosen_spec hp, B1s]
  unfold lA
  by_cases hk : D 43 0 p = -1
  · simp only [hk, if_true]
  · by_cases h2 : D 45 0 p = -1 <;> by_cases h3 : D 46 0 p = -1 <;> simp only [hk, h2, h3, hb, hc, h10, if_true, if_false] <;> rw [Rn_lostAt_years_words_40_spec hp _ _ _ _ hB] <;> simp only [h2, h3]
/-- LOST at a place -/
def Rn_lostAt_years_words_v (D : pD) (p : Nat) : Int32 := lA (D 5 0 0) (D 5 0 1) (D 5 0 3) (D 5 0 2) (D 6 0) (D 11 0 p) (D 8 0 (pN D p)) (D 47 0 p) (tA (D 63 0) (D 44 0 p) (D 45 0 p) (D 46 0 p)) (D 43 0 p) (D 45 0 p) (D 46 0 p)
theorem Rn_lostOfAll_years_words_loop {cP : Nat} (hc : cP ≤ 24) (D : pD) (E : pDL) (hB : BkOk D) (hP : D 4 0 2 = nI cP) : ∀ (n k : Nat), k + n = cP → Rn_lostOfAll_years_words_4 (iS (Rn_lostAt_years_words_v D) k) (nI k) D E = some (some (.inl (iS (Rn_lostAt_years_words_v D) cP)), D, E)
  | 0, k, h => by
    obtain rfl : k = cP := by omega
    rw [e_Rn_lostOfAll_years_words_4, hP, if_pos (nI_le (Nat.le_refl _) (by omega))]
  | n + 1, k, h => by
    rw [e_Rn_lostOfAll_years_words_4, hP, if_neg (nI_ge (by omega) (by omega)), Rn_lostAt_years_words_spec (by omega) _ _ hB, B1s, nI_1 k]
    exact Rn_lostOfAll_years_words_loop hc D E hB hP n (k + 1) (by omega)
theorem Rn_lostOfAll_years_words_spec {cP : Nat} (hc : cP ≤ 24) (D : pD) (E : pDL) (hB : BkOk D) (hP : D 4 0 2 = nI cP) : Rn_lostOfAll_years_words D E = some (some (.inl (iS (Rn_lostAt_years_words_v D) cP)), D, E) := by
  rw [e_Rn_lostOfAll_years_words]
  exact Rn_lostOfAll_years_words_loop hc D E hB hP cP 0 (by omega)
theorem Rn_isChosen_k0_spec {p : Nat} (hp : p < 24) (D : pD) (E : pDL) : Rn_isChosen_k0 (nI p) D E = some (some (.inl (if D 77 0 p = -1 then 0 else 1)), D, E) := by
  rw [e_Rn_isChosen_k0, if_neg (iB hp (by omega)), iC (by omega)]
  split <;> rfl
theorem Rn_isBorrowed_k0_spec {p : Nat} (hp : p < 24) (D : pD) (E : pDL) : Rn_isBorrowed_k0 (nI p) D E = some (some (.inl (if D 77 0 p = 3 then 1 else 0)), D, E) := by
  rw [e_Rn_isBorrowed_k0, if_neg (iB hp (by omega)), iC (by omega)]
  split <;> rfl
theorem Rn_traitsAt_k0_held_wordTraits_spec {p : Nat} (hp : p < 24) (D : pD) (E : pDL) : Rn_traitsAt_k0_held_wordTraits (nI p) D E = some (some (.inl (tA (D 9 0) (D 78 0 p) (D 79 0 p) (D 80 0 p))), D, E) := by
  rw [e_Rn_traitsAt_k0_held_wordTraits, if_neg (iB hp (by omega)), iC (by omega), Rn_traitsOf_held_wordTraits_spec, B1s, if_neg (by have := iB hp (N := 24) (by omega); rw [iC (by omega)] at this; exact this), Rn_traitsOf_held_wordTraits_spec, B1s, if_neg (by have := iB hp (N := 24) (by omega); rw [iC (by omega)] at this; exact this), Rn_traitsOf_held_wordTraits_spec, B1s]
  rfl
theorem Rn_lostAt_k0_held_wordTraits_40_spec {p : Nat} (hp : p < 24) (a b : Int32) (D : pD) (E : pDL) (hB : BkOk D) : Rn_lostAt_k0_held_wordTraits_40 (nI p) a b D E = some (some (.inl (lT (D 5 0 0) (D 5 0 1) (D 6 0) (D 11 0 p) (D 8 0 (pN D p)) (D 81 0 p) (tA (D 9 0) (D 78 0 p) (D 79 0 p) (D 80 0 p)) + (b + a) * D 5 0 3 + (if D 77 0 p = 3 then D 5 0 2 else 0))), D, E) := by
  rw [e_Rn_lostAt_k0_held_wordTraits_40, Rn_traitsAt_k0_held_wordTraits_spec hp, B1s, if_neg (iB hp (by omega)), iC (by omega), Bk_lostByTraits_spec hp _ _ _ _ hB.1 (hB.2.1 p hp), B1s, show (8 : Int32) = nI (3 + 5) from rfl, Bk_setting_spec (by omega), B1s, Rn_isBorrowed_k0_spec hp, B1s]
  by_cases hk : D 77 0 p = 3
  · rw [if_pos hk, if_neg (by decide), show (7 : Int32) = nI (2 + 5) from rfl, Bk_setting_spec (by omega), B1s, if_pos hk]
  · rw [if_neg hk, if_pos rfl, if_neg hk]
theorem Rn_lostAt_k0_held_wordTraits_spec {p : Nat} (hp : p < 24) (D : pD) (E : pDL) (hB : BkOk D) : Rn_lostAt_k0_held_wordTraits (nI p) D E = some (some (.inl (lA (D 5 0 0) (D 5 0 1) (D 5 0 3) (D 5 0 2) (D 6 0) (D 11 0 p) (D 8 0 (pN D p)) (D 81 0 p) (tA (D 9 0) (D 78 0 p) (D 79 0 p) (D 80 0 p)) (D 77 0 p) (D 79 0 p) (D 80 0 p))), D, E) := by
  have hb : ¬ (nI p < 0 ∨ 24 ≤ p) := by have := iB hp (N := 24) (by omega); rw [iC (by omega)] at this; exact this
  have hc : (nI p).toNatClampNeg = p := iC (by omega)
  have h10 : ¬ (1 : Int32) = 0 := by decide
  rw [e_Rn_lostAt_k0_held_wordTraits, Rn_isChosen_k0_spec hp, B1s]
  unfold lA
  by_cases hk : D 77 0 p = -1
  · simp only [hk, if_true]
  · by_cases h2 : D 79 0 p = -1 <;> by_cases h3 : D 80 0 p = -1 <;> simp only [hk, h2, h3, hb, hc, h10, if_true, if_false] <;> rw [Rn_lostAt_k0_held_wordTraits_40_spec hp _ _ _ _ hB] <;> simp only [h2, h3]
/-- LOST at a place -/
def Rn_lostAt_k0_held_wordTraits_v (D : pD) (p : Nat) : Int32 := lA (D 5 0 0) (D 5 0 1) (D 5 0 3) (D 5 0 2) (D 6 0) (D 11 0 p) (D 8 0 (pN D p)) (D 81 0 p) (tA (D 9 0) (D 78 0 p) (D 79 0 p) (D 80 0 p)) (D 77 0 p) (D 79 0 p) (D 80 0 p)
theorem Rn_lostOfAll_k0_held_wordTraits_loop {cP : Nat} (hc : cP ≤ 24) (D : pD) (E : pDL) (hB : BkOk D) (hP : D 4 0 2 = nI cP) : ∀ (n k : Nat), k + n = cP → Rn_lostOfAll_k0_held_wordTraits_4 (iS (Rn_lostAt_k0_held_wordTraits_v D) k) (nI k) D E = some (some (.inl (iS (Rn_lostAt_k0_held_wordTraits_v D) cP)), D, E)
  | 0, k, h => by
    obtain rfl : k = cP := by omega
    rw [e_Rn_lostOfAll_k0_held_wordTraits_4, hP, if_pos (nI_le (Nat.le_refl _) (by omega))]
  | n + 1, k, h => by
    rw [e_Rn_lostOfAll_k0_held_wordTraits_4, hP, if_neg (nI_ge (by omega) (by omega)), Rn_lostAt_k0_held_wordTraits_spec (by omega) _ _ hB, B1s, nI_1 k]
    exact Rn_lostOfAll_k0_held_wordTraits_loop hc D E hB hP n (k + 1) (by omega)
theorem Rn_lostOfAll_k0_held_wordTraits_spec {cP : Nat} (hc : cP ≤ 24) (D : pD) (E : pDL) (hB : BkOk D) (hP : D 4 0 2 = nI cP) : Rn_lostOfAll_k0_held_wordTraits D E = some (some (.inl (iS (Rn_lostAt_k0_held_wordTraits_v D) cP)), D, E) := by
  rw [e_Rn_lostOfAll_k0_held_wordTraits]
  exact Rn_lostOfAll_k0_held_wordTraits_loop hc D E hB hP cP 0 (by omega)
theorem Rn_isChosen_k1_spec {p : Nat} (hp : p < 24) (D : pD) (E : pDL) : Rn_isChosen_k1 (nI p) D E = some (some (.inl (if D 83 0 p = -1 then 0 else 1)), D, E) := by
  rw [e_Rn_isChosen_k1, if_neg (iB hp (by omega)), iC (by omega)]
  split <;> rfl
theorem Rn_isBorrowed_k1_spec {p : Nat} (hp : p < 24) (D : pD) (E : pDL) : Rn_isBorrowed_k1 (nI p) D E = some (some (.inl (if D 83 0 p = 3 then 1 else 0)), D, E) := by
  rw [e_Rn_isBorrowed_k1, if_neg (iB hp (by omega)), iC (by omega)]
  split <;> rfl
theorem Rn_traitsAt_k1_held_wordTraits_spec {p : Nat} (hp : p < 24) (D : pD) (E : pDL) : Rn_traitsAt_k1_held_wordTraits (nI p) D E = some (some (.inl (tA (D 9 0) (D 84 0 p) (D 85 0 p) (D 86 0 p))), D, E) := by
  rw [e_Rn_traitsAt_k1_held_wordTraits, if_neg (iB hp (by omega)), iC (by omega), Rn_traitsOf_held_wordTraits_spec, B1s, if_neg (by have := iB hp (N := 24) (by omega); rw [iC (by omega)] at this; exact this), Rn_traitsOf_held_wordTraits_spec, B1s, if_neg (by have := iB hp (N := 24) (by omega); rw [iC (by omega)] at this; exact this), Rn_traitsOf_held_wordTraits_spec, B1s]
  rfl
theorem Rn_lostAt_k1_held_wordTraits_40_spec {p : Nat} (hp : p < 24) (a b : Int32) (D : pD) (E : pDL) (hB : BkOk D) : Rn_lostAt_k1_held_wordTraits_40 (nI p) a b D E = some (some (.inl (lT (D 5 0 0) (D 5 0 1) (D 6 0) (D 11 0 p) (D 8 0 (pN D p)) (D 87 0 p) (tA (D 9 0) (D 84 0 p) (D 85 0 p) (D 86 0 p)) + (b + a) * D 5 0 3 + (if D 83 0 p = 3 then D 5 0 2 else 0))), D, E) := by
  rw [e_Rn_lostAt_k1_held_wordTraits_40, Rn_traitsAt_k1_held_wordTraits_spec hp, B1s, if_neg (iB hp (by omega)), iC (by omega), Bk_lostByTraits_spec hp _ _ _ _ hB.1 (hB.2.1 p hp), B1s, show (8 : Int32) = nI (3 + 5) from rfl, Bk_setting_spec (by omega), B1s, Rn_isBorrowed_k1_spec hp, B1s]
  by_cases hk : D 83 0 p = 3
  · rw [if_pos hk, if_neg (by decide), show (7 : Int32) = nI (2 + 5) from rfl, Bk_setting_spec (by omega), B1s, if_pos hk]
  · rw [if_neg hk, if_pos rfl, if_neg hk]
theorem Rn_lostAt_k1_held_wordTraits_spec {p : Nat} (hp : p < 24) (D : pD) (E : pDL) (hB : BkOk D) : Rn_lostAt_k1_held_wordTraits (nI p) D E = some (some (.inl (lA (D 5 0 0) (D 5 0 1) (D 5 0 3) (D 5 0 2) (D 6 0) (D 11 0 p) (D 8 0 (pN D p)) (D 87 0 p) (tA (D 9 0) (D 84 0 p) (D 85 0 p) (D 86 0 p)) (D 83 0 p) (D 85 0 p) (D 86 0 p))), D, E) := by
  have hb : ¬ (nI p < 0 ∨ 24 ≤ p) := by have := iB hp (N := 24) (by omega); rw [iC (by omega)] at this; exact this
  have hc : (nI p).toNatClampNeg = p := iC (by omega)
  have h10 : ¬ (1 : Int32) = 0 := by decide
  rw [e_Rn_lostAt_k1_held_wordTraits, Rn_isChosen_k1_spec hp, B1s]
  unfold lA
  by_cases hk : D 83 0 p = -1
  · simp only [hk, if_true]
  · by_cases h2 : D 85 0 p = -1 <;> by_cases h3 : D 86 0 p = -1 <;> simp only [hk, h2, h3, hb, hc, h10, if_true, if_false] <;> rw [Rn_lostAt_k1_held_wordTraits_40_spec hp _ _ _ _ hB] <;> simp only [h2, h3]
/-- LOST at a place -/
def Rn_lostAt_k1_held_wordTraits_v (D : pD) (p : Nat) : Int32 := lA (D 5 0 0) (D 5 0 1) (D 5 0 3) (D 5 0 2) (D 6 0) (D 11 0 p) (D 8 0 (pN D p)) (D 87 0 p) (tA (D 9 0) (D 84 0 p) (D 85 0 p) (D 86 0 p)) (D 83 0 p) (D 85 0 p) (D 86 0 p)
theorem Rn_lostOfAll_k1_held_wordTraits_loop {cP : Nat} (hc : cP ≤ 24) (D : pD) (E : pDL) (hB : BkOk D) (hP : D 4 0 2 = nI cP) : ∀ (n k : Nat), k + n = cP → Rn_lostOfAll_k1_held_wordTraits_4 (iS (Rn_lostAt_k1_held_wordTraits_v D) k) (nI k) D E = some (some (.inl (iS (Rn_lostAt_k1_held_wordTraits_v D) cP)), D, E)
  | 0, k, h => by
    obtain rfl : k = cP := by omega
    rw [e_Rn_lostOfAll_k1_held_wordTraits_4, hP, if_pos (nI_le (Nat.le_refl _) (by omega))]
  | n + 1, k, h => by
    rw [e_Rn_lostOfAll_k1_held_wordTraits_4, hP, if_neg (nI_ge (by omega) (by omega)), Rn_lostAt_k1_held_wordTraits_spec (by omega) _ _ hB, B1s, nI_1 k]
    exact Rn_lostOfAll_k1_held_wordTraits_loop hc D E hB hP n (k + 1) (by omega)
theorem Rn_lostOfAll_k1_held_wordTraits_spec {cP : Nat} (hc : cP ≤ 24) (D : pD) (E : pDL) (hB : BkOk D) (hP : D 4 0 2 = nI cP) : Rn_lostOfAll_k1_held_wordTraits D E = some (some (.inl (iS (Rn_lostAt_k1_held_wordTraits_v D) cP)), D, E) := by
  rw [e_Rn_lostOfAll_k1_held_wordTraits]
  exact Rn_lostOfAll_k1_held_wordTraits_loop hc D E hB hP cP 0 (by omega)
theorem Rn_isChosen_k2_spec {p : Nat} (hp : p < 24) (D : pD) (E : pDL) : Rn_isChosen_k2 (nI p) D E = some (some (.inl (if D 89 0 p = -1 then 0 else 1)), D, E) := by
  rw [e_Rn_isChosen_k2, if_neg (iB hp (by omega)), iC (by omega)]
  split <;> rfl
theorem Rn_isBorrowed_k2_spec {p : Nat} (hp : p < 24) (D : pD) (E : pDL) : Rn_isBorrowed_k2 (nI p) D E = some (some (.inl (if D 89 0 p = 3 then 1 else 0)), D, E) := by
  rw [e_Rn_isBorrowed_k2, if_neg (iB hp (by omega)), iC (by omega)]
  split <;> rfl
theorem Rn_traitsAt_k2_held_wordTraits_spec {p : Nat} (hp : p < 24) (D : pD) (E : pDL) : Rn_traitsAt_k2_held_wordTraits (nI p) D E = some (some (.inl (tA (D 9 0) (D 90 0 p) (D 91 0 p) (D 92 0 p))), D, E) := by
  rw [e_Rn_traitsAt_k2_held_wordTraits, if_neg (iB hp (by omega)), iC (by omega), Rn_traitsOf_held_wordTraits_spec, B1s, if_neg (by have := iB hp (N := 24) (by omega); rw [iC (by omega)] at this; exact this), Rn_traitsOf_held_wordTraits_spec, B1s, if_neg (by have := iB hp (N := 24) (by omega); rw [iC (by omega)] at this; exact this), Rn_traitsOf_held_wordTraits_spec, B1s]
  rfl
theorem Rn_lostAt_k2_held_wordTraits_40_spec {p : Nat} (hp : p < 24) (a b : Int32) (D : pD) (E : pDL) (hB : BkOk D) : Rn_lostAt_k2_held_wordTraits_40 (nI p) a b D E = some (some (.inl (lT (D 5 0 0) (D 5 0 1) (D 6 0) (D 11 0 p) (D 8 0 (pN D p)) (D 93 0 p) (tA (D 9 0) (D 90 0 p) (D 91 0 p) (D 92 0 p)) + (b + a) * D 5 0 3 + (if D 89 0 p = 3 then D 5 0 2 else 0))), D, E) := by
  rw [e_Rn_lostAt_k2_held_wordTraits_40, Rn_traitsAt_k2_held_wordTraits_spec hp, B1s, if_neg (iB hp (by omega)), iC (by omega), Bk_lostByTraits_spec hp _ _ _ _ hB.1 (hB.2.1 p hp), B1s, show (8 : Int32) = nI (3 + 5) from rfl, Bk_setting_spec (by omega), B1s, Rn_isBorrowed_k2_spec hp, B1s]
  by_cases hk : D 89 0 p = 3
  · rw [if_pos hk, if_neg (by decide), show (7 : Int32) = nI (2 + 5) from rfl, Bk_setting_spec (by omega), B1s, if_pos hk]
  · rw [if_neg hk, if_pos rfl, if_neg hk]
theorem Rn_lostAt_k2_held_wordTraits_spec {p : Nat} (hp : p < 24) (D : pD) (E : pDL) (hB : BkOk D) : Rn_lostAt_k2_held_wordTraits (nI p) D E = some (some (.inl (lA (D 5 0 0) (D 5 0 1) (D 5 0 3) (D 5 0 2) (D 6 0) (D 11 0 p) (D 8 0 (pN D p)) (D 93 0 p) (tA (D 9 0) (D 90 0 p) (D 91 0 p) (D 92 0 p)) (D 89 0 p) (D 91 0 p) (D 92 0 p))), D, E) := by
  have hb : ¬ (nI p < 0 ∨ 24 ≤ p) := by have := iB hp (N := 24) (by omega); rw [iC (by omega)] at this; exact this
  have hc : (nI p).toNatClampNeg = p := iC (by omega)
  have h10 : ¬ (1 : Int32) = 0 := by decide
  rw [e_Rn_lostAt_k2_held_wordTraits, Rn_isChosen_k2_spec hp, B1s]
  unfold lA
  by_cases hk : D 89 0 p = -1
  · simp only [hk, if_true]
  · by_cases h2 : D 91 0 p = -1 <;> by_cases h3 : D 92 0 p = -1 <;> simp only [hk, h2, h3, hb, hc, h10, if_true, if_false] <;> rw [Rn_lostAt_k2_held_wordTraits_40_spec hp _ _ _ _ hB] <;> simp only [h2, h3]
/-- LOST at a place -/
def Rn_lostAt_k2_held_wordTraits_v (D : pD) (p : Nat) : Int32 := lA (D 5 0 0) (D 5 0 1) (D 5 0 3) (D 5 0 2) (D 6 0) (D 11 0 p) (D 8 0 (pN D p)) (D 93 0 p) (tA (D 9 0) (D 90 0 p) (D 91 0 p) (D 92 0 p)) (D 89 0 p) (D 91 0 p) (D 92 0 p)
theorem Rn_lostOfAll_k2_held_wordTraits_loop {cP : Nat} (hc : cP ≤ 24) (D : pD) (E : pDL) (hB : BkOk D) (hP : D 4 0 2 = nI cP) : ∀ (n k : Nat), k + n = cP → Rn_lostOfAll_k2_held_wordTraits_4 (iS (Rn_lostAt_k2_held_wordTraits_v D) k) (nI k) D E = some (some (.inl (iS (Rn_lostAt_k2_held_wordTraits_v D) cP)), D, E)
  | 0, k, h => by
    obtain rfl : k = cP := by omega
    rw [e_Rn_lostOfAll_k2_held_wordTraits_4, hP, if_pos (nI_le (Nat.le_refl _) (by omega))]
  | n + 1, k, h => by
    rw [e_Rn_lostOfAll_k2_held_wordTraits_4, hP, if_neg (nI_ge (by omega) (by omega)), Rn_lostAt_k2_held_wordTraits_spec (by omega) _ _ hB, B1s, nI_1 k]
    exact Rn_lostOfAll_k2_held_wordTraits_loop hc D E hB hP n (k + 1) (by omega)
theorem Rn_lostOfAll_k2_held_wordTraits_spec {cP : Nat} (hc : cP ≤ 24) (D : pD) (E : pDL) (hB : BkOk D) (hP : D 4 0 2 = nI cP) : Rn_lostOfAll_k2_held_wordTraits D E = some (some (.inl (iS (Rn_lostAt_k2_held_wordTraits_v D) cP)), D, E) := by
  rw [e_Rn_lostOfAll_k2_held_wordTraits]
  exact Rn_lostOfAll_k2_held_wordTraits_loop hc D E hB hP cP 0 (by omega)
theorem Rn_isChosen_k3_spec {p : Nat} (hp : p < 24) (D : pD) (E : pDL) : Rn_isChosen_k3 (nI p) D E = some (some (.inl (if D 95 0 p = -1 then 0 else 1)), D, E) := by
  rw [e_Rn_isChosen_k3, if_neg (iB hp (by omega)), iC (by omega)]
  split <;> rfl
theorem Rn_isBorrowed_k3_spec {p : Nat} (hp : p < 24) (D : pD) (E : pDL) : Rn_isBorrowed_k3 (nI p) D E = some (some (.inl (if D 95 0 p = 3 then 1 else 0)), D, E) := by
  rw [e_Rn_isBorrowed_k3, if_neg (iB hp (by omega)), iC (by omega)]
  split <;> rfl
theorem Rn_traitsAt_k3_held_wordTraits_spec {p : Nat} (hp : p < 24) (D : pD) (E : pDL) : Rn_traitsAt_k3_held_wordTraits (nI p) D E = some (some (.inl (tA (D 9 0) (D 96 0 p) (D 97 0 p) (D 98 0 p))), D, E) := by
  rw [e_Rn_traitsAt_k3_held_wordTraits, if_neg (iB hp (by omega)), iC (by omega), Rn_traitsOf_held_wordTraits_spec, B1s, if_neg (by have := iB hp (N := 24) (by omega); rw [iC (by omega)] at this; exact this), Rn_traitsOf_held_wordTraits_spec, B1s, if_neg (by have := iB hp (N := 24) (by omega); rw [iC (by omega)] at this; exact this), Rn_traitsOf_held_wordTraits_spec, B1s]
  rfl
theorem Rn_lostAt_k3_held_wordTraits_40_spec {p : Nat} (hp : p < 24) (a b : Int32) (D : pD) (E : pDL) (hB : BkOk D) : Rn_lostAt_k3_held_wordTraits_40 (nI p) a b D E = some (some (.inl (lT (D 5 0 0) (D 5 0 1) (D 6 0) (D 11 0 p) (D 8 0 (pN D p)) (D 99 0 p) (tA (D 9 0) (D 96 0 p) (D 97 0 p) (D 98 0 p)) + (b + a) * D 5 0 3 + (if D 95 0 p = 3 then D 5 0 2 else 0))), D, E) := by
  rw [e_Rn_lostAt_k3_held_wordTraits_40, Rn_traitsAt_k3_held_wordTraits_spec hp, B1s, if_neg (iB hp (by omega)), iC (by omega), Bk_lostByTraits_spec hp _ _ _ _ hB.1 (hB.2.1 p hp), B1s, show (8 : Int32) = nI (3 + 5) from rfl, Bk_setting_spec (by omega), B1s, Rn_isBorrowed_k3_spec hp, B1s]
  by_cases hk : D 95 0 p = 3
  · rw [if_pos hk, if_neg (by decide), show (7 : Int32) = nI (2 + 5) from rfl, Bk_setting_spec (by omega), B1s, if_pos hk]
  · rw [if_neg hk, if_pos rfl, if_neg hk]
theorem Rn_lostAt_k3_held_wordTraits_spec {p : Nat} (hp : p < 24) (D : pD) (E : pDL) (hB : BkOk D) : Rn_lostAt_k3_held_wordTraits (nI p) D E = some (some (.inl (lA (D 5 0 0) (D 5 0 1) (D 5 0 3) (D 5 0 2) (D 6 0) (D 11 0 p) (D 8 0 (pN D p)) (D 99 0 p) (tA (D 9 0) (D 96 0 p) (D 97 0 p) (D 98 0 p)) (D 95 0 p) (D 97 0 p) (D 98 0 p))), D, E) := by
  have hb : ¬ (nI p < 0 ∨ 24 ≤ p) := by have := iB hp (N := 24) (by omega); rw [iC (by omega)] at this; exact this
  have hc : (nI p).toNatClampNeg = p := iC (by omega)
  have h10 : ¬ (1 : Int32) = 0 := by decide
  rw [e_Rn_lostAt_k3_held_wordTraits, Rn_isChosen_k3_spec hp, B1s]
  unfold lA
  by_cases hk : D 95 0 p = -1
  · simp only [hk, if_true]
  · by_cases h2 : D 97 0 p = -1 <;> by_cases h3 : D 98 0 p = -1 <;> simp only [hk, h2, h3, hb, hc, h10, if_true, if_false] <;> rw [Rn_lostAt_k3_held_wordTraits_40_spec hp _ _ _ _ hB] <;> simp only [h2, h3]
/-- LOST at a place -/
def Rn_lostAt_k3_held_wordTraits_v (D : pD) (p : Nat) : Int32 := lA (D 5 0 0) (D 5 0 1) (D 5 0 3) (D 5 0 2) (D 6 0) (D 11 0 p) (D 8 0 (pN D p)) (D 99 0 p) (tA (D 9 0) (D 96 0 p) (D 97 0 p) (D 98 0 p)) (D 95 0 p) (D 97 0 p) (D 98 0 p)
theorem Rn_lostOfAll_k3_held_wordTraits_loop {cP : Nat} (hc : cP ≤ 24) (D : pD) (E : pDL) (hB : BkOk D) (hP : D 4 0 2 = nI cP) : ∀ (n k : Nat), k + n = cP → Rn_lostOfAll_k3_held_wordTraits_4 (iS (Rn_lostAt_k3_held_wordTraits_v D) k) (nI k) D E = some (some (.inl (iS (Rn_lostAt_k3_held_wordTraits_v D) cP)), D, E)
  | 0, k, h => by
    obtain rfl : k = cP := by omega
    rw [e_Rn_lostOfAll_k3_held_wordTraits_4, hP, if_pos (nI_le (Nat.le_refl _) (by omega))]
  | n + 1, k, h => by
    rw [e_Rn_lostOfAll_k3_held_wordTraits_4, hP, if_neg (nI_ge (by omega) (by omega)), Rn_lostAt_k3_held_wordTraits_spec (by omega) _ _ hB, B1s, nI_1 k]
    exact Rn_lostOfAll_k3_held_wordTraits_loop hc D E hB hP n (k + 1) (by omega)
theorem Rn_lostOfAll_k3_held_wordTraits_spec {cP : Nat} (hc : cP ≤ 24) (D : pD) (E : pDL) (hB : BkOk D) (hP : D 4 0 2 = nI cP) : Rn_lostOfAll_k3_held_wordTraits D E = some (some (.inl (iS (Rn_lostAt_k3_held_wordTraits_v D) cP)), D, E) := by
  rw [e_Rn_lostOfAll_k3_held_wordTraits]
  exact Rn_lostOfAll_k3_held_wordTraits_loop hc D E hB hP cP 0 (by omega)

/-! THE REFERENCE: what a choice has and loses -/
/-- a word's traits in a year, behind n moves -/
def mv (mw my mt : Nat → Int32) (yr w i : Int32) : Nat → Int32
  | 0 => i
  | n + 1 => if ¬ yr < 0 ∧ mw n = w ∧ ¬ yr < my n then mt n else mv mw my mt yr w i n
theorem Mo_traitsOf_loop {cM : Nat} (hc : cM ≤ 40) (w yr i : Int32) (D : pD) (E : pDL) (hM : D 100 0 44 = nI cM) : ∀ (n k : Nat), k + n = cM → Mo_traitsOf_10 w yr (mv (D 132 0) (D 133 0) (D 134 0) yr w i k) (nI k) D E = some (some (.inl (mv (D 132 0) (D 133 0) (D 134 0) yr w i cM)), D, E)
  | 0, k, h => by
    obtain rfl : k = cM := by omega
    rw [e_Mo_traitsOf_10, hM, if_pos (nI_le (Nat.le_refl _) (by omega))]
  | n + 1, k, h => by
    have hk : k < 40 := by omega
    have hb : ¬ (nI k < 0 ∨ 40 ≤ k) := by have := iB hk (by omega); rw [iC (by omega)] at this; exact this
    have hcl : (nI k).toNatClampNeg = k := iC (by omega)
    have hge : ¬ nI cM ≤ nI k := nI_ge (by omega) (by omega)
    have ih := Mo_traitsOf_loop hc w yr i D E hM n (k + 1) (by omega)
    rw [mv] at ih
    rw [e_Mo_traitsOf_10]
    simp only [hM, hge, hcl, hb, if_false, nI_1 k]
    by_cases h0 : yr < 0
    · rw [if_neg (fun q => q.1 h0)] at ih
      rw [if_pos h0]
      exact ih
    · rw [if_neg h0]
      by_cases h1 : D 132 0 k = w
      · rw [if_pos h1]
        by_cases h2 : yr < D 133 0 k
        · rw [if_neg (fun q => q.2.2 h2)] at ih
          rw [if_pos h2]
          exact ih
        · rw [if_pos ⟨h0, h1, h2⟩] at ih
          rw [if_neg h2]
          exact ih
      · rw [if_neg (fun q => h1 q.2.1)] at ih
        rw [if_neg h1]
        exact ih
/-- a word's traits as the reference reads them -/
def mT (D : pD) (cM : Nat) (yr w : Int32) : Int32 := mv (D 132 0) (D 133 0) (D 134 0) yr w (D 106 0 w.toNatClampNeg) cM
theorem Mo_traitsOf_spec {cM : Nat} (hc : cM ≤ 40) {w : Int32} (yr : Int32) (D : pD) (E : pDL) (hM : D 100 0 44 = nI cM) (hw : vp_in w 20) : Mo_traitsOf w yr D E = some (some (.inl (mT D cM yr w)), D, E) := by
  have h40 : ¬ (w < 0 ∨ 40 ≤ w.toNatClampNeg) := fun q => hw (q.imp id (fun z => by omega))
  rw [e_Mo_traitsOf, if_neg h40]
  exact Mo_traitsOf_loop hc w yr _ D E hM cM 0 (by omega)
/-- a choice as it may be -/
def VC (kd a b c : Int32) : Prop := kd = -1 ∨ (kd = 0 ∧ vp_in a 20) ∨ (kd = 1 ∧ vp_in a 20 ∧ vp_in b 20) ∨ (kd = 2 ∧ vp_in a 20 ∧ vp_in b 20 ∧ (c = -1 ∨ vp_in c 20)) ∨ kd = 3
/-- what a choice has, by its kind -/
def hM (tw : Int32 → Int32) (kd a b c : Int32) : Int32 := if kd = -1 then 0 else if kd = 3 then 0 else if kd = 0 then tw a else if kd = 2 then (if c = -1 then tw a ||| tw b else (tw a ||| tw b) ||| tw c) else tw a ||| tw b
/-- the reference's choice at a place -/
def MC (D : pD) (p : Nat) : Prop := VC (D 115 0 p) (D 116 0 p) (D 117 0 p) (D 118 0 p)
def hMv (D : pD) (cM : Nat) (yr : Int32) (p : Nat) : Int32 := hM (mT D cM yr) (D 115 0 p) (D 116 0 p) (D 117 0 p) (D 118 0 p)
theorem Mo_had_spec {cM p : Nat} (hc : cM ≤ 40) (hp : p < 24) (yr : Int32) (D : pD) (E : pDL) (hm : D 100 0 44 = nI cM) (hv : MC D p) : Mo_had (nI p) yr D E = some (some (.inl (hMv D cM yr p)), D, E) := by
  have hb : ¬ (nI p < 0 ∨ 24 ≤ p) := by have := iB hp (N := 24) (by omega); rw [iC (by omega)] at this; exact this
  have hcl : (nI p).toNatClampNeg = p := iC (by omega)
  have c1 : ¬ (0 : Int32) = -1 := by decide
  have c2 : ¬ (0 : Int32) = 3 := by decide
  have c3 : ¬ (1 : Int32) = -1 := by decide
  have c4 : ¬ (1 : Int32) = 3 := by decide
  have c5 : ¬ (1 : Int32) = 0 := by decide
  have c6 : ¬ (1 : Int32) = 2 := by decide
  have c7 : ¬ (2 : Int32) = -1 := by decide
  have c8 : ¬ (2 : Int32) = 3 := by decide
  have c9 : ¬ (2 : Int32) = 0 := by decide
  have c10 : ¬ (3 : Int32) = -1 := by decide
  rw [e_Mo_had]
  unfold hMv hM
  simp only [hcl, hb, if_false]
  rcases hv with h | ⟨h, ha⟩ | ⟨h, ha, hb2⟩ | ⟨h, ha, hb2, hc3⟩ | h
  · simp only [h, if_true]
  · simp only [h, c1, c2, if_true, if_false, Mo_traitsOf_spec hc yr D E hm ha, B1s]
  · simp only [h, c3, c4, c5, c6, if_true, if_false, Mo_traitsOf_spec hc yr D E hm ha, Mo_traitsOf_spec hc yr D E hm hb2, B1s]
  · simp only [h, c7, c8, c9, if_true, if_false, Mo_traitsOf_spec hc yr D E hm ha, Mo_traitsOf_spec hc yr D E hm hb2, B1s]
    by_cases h3 : D 118 0 p = -1
    · rw [if_pos h3, if_pos h3]
    · rw [if_neg h3, if_neg h3, Mo_traitsOf_spec hc yr D E hm (hc3.resolve_left h3), B1s]
  · simp only [h, c10, if_true, if_false]
def mN (D : pD) (p : Nat) : Nat := (D 107 0 p).toNatClampNeg
theorem Mo_lackAt_spec {cM p : Nat} (hc : cM ≤ 40) (hp : p < 24) (yr : Int32) (D : pD) (E : pDL) (hm : D 100 0 44 = nI cM) (hv : MC D p) : Mo_lackAt (nI p) yr D E = some (some (.inl (D 108 0 p &&& (hMv D cM yr p ^^^ (-1)))), D, E) := by
  have hb : ¬ (nI p < 0 ∨ 48 ≤ (nI p).toNatClampNeg) := iB (by omega) (by omega)
  rw [e_Mo_lackAt, if_neg hb, Mo_had_spec hc hp yr D E hm hv, B1s, iC (by omega)]
theorem Mo_addAt_spec {cM p : Nat} (hc : cM ≤ 40) (hp : p < 24) (yr : Int32) (D : pD) (E : pDL) (hm : D 100 0 44 = nI cM) (hv : MC D p) (hn : vp_in (D 107 0 p) 12) : Mo_addAt (nI p) yr D E = some (some (.inl (hMv D cM yr p &&& (D 105 0 (mN D p) ^^^ (-1)))), D, E) := by
  have hb : ¬ (nI p < 0 ∨ 48 ≤ (nI p).toNatClampNeg) := iB (by omega) (by omega)
  have hn2 : ¬ (D 107 0 p < 0 ∨ 24 ≤ (D 107 0 p).toNatClampNeg) := fun q => hn (q.imp id (fun z => by omega))
  rw [e_Mo_addAt, Mo_had_spec hc hp yr D E hm hv, B1s, if_neg hb, iC (by omega), if_neg hn2]
  rfl
/-- words behind the first -/
def beh (kd c : Int32) : Int32 := if kd = 1 then 1 else if kd = 2 then (if c = -1 then 1 else 2) else 0
def lM (la ad lo bo : Int32) (w : Nat → Int32) (be no nt x kd c : Int32) : Int32 := if kd = -1 then 0 else lT la ad w be no nt x + lo * beh kd c + (if kd = 3 then bo else 0)
theorem Mo_lostAt_55_spec {cM p : Nat} (hc : cM ≤ 40) (hp : p < 24) (yr s : Int32) (D : pD) (E : pDL) (hm : D 100 0 44 = nI cM) (hv : MC D p) (hn : vp_in (D 107 0 p) 12) : Mo_lostAt_55 (nI p) yr s D E = some (some (.inl (lT (D 102 0 5) (D 102 0 6) (D 114 0) (D 108 0 p) (D 105 0 (mN D p)) (D 119 0 p) (hMv D cM yr p) + D 102 0 8 * s + (if D 115 0 p = 3 then D 102 0 7 else 0))), D, E) := by
  have hb : ¬ (nI p < 0 ∨ 24 ≤ p) := by have := iB hp (N := 24) (by omega); rw [iC (by omega)] at this; exact this
  have hcl : (nI p).toNatClampNeg = p := iC (by omega)
  rw [e_Mo_lostAt_55]
  simp only [Mo_lackAt_spec hc hp yr D E hm hv, Mo_addAt_spec hc hp yr D E hm hv hn, Mo_weigh_spec, B1s, hcl, hb, if_false]
  unfold lT
  split <;> rfl
def lMv (D : pD) (cM : Nat) (yr : Int32) (p : Nat) : Int32 := lM (D 102 0 5) (D 102 0 6) (D 102 0 8) (D 102 0 7) (D 114 0) (D 108 0 p) (D 105 0 (mN D p)) (D 119 0 p) (hMv D cM yr p) (D 115 0 p) (D 118 0 p)
theorem Mo_lostAt_spec {cM p : Nat} (hc : cM ≤ 40) (hp : p < 24) (yr : Int32) (D : pD) (E : pDL) (hm : D 100 0 44 = nI cM) (hv : MC D p) (hn : vp_in (D 107 0 p) 12) : Mo_lostAt (nI p) yr D E = some (some (.inl (lMv D cM yr p)), D, E) := by
  have hb : ¬ (nI p < 0 ∨ 24 ≤ p) := by have := iB hp (N := 24) (by omega); rw [iC (by omega)] at this; exact this
  have hcl : (nI p).toNatClampNeg = p := iC (by omega)
  rw [e_Mo_lostAt]
  unfold lMv lM beh
  simp only [hcl, hb, if_false, Mo_lostAt_55_spec hc hp yr _ D E hm hv hn]
  by_cases h0 : D 115 0 p = -1
  · simp only [h0, if_true]
  · by_cases h1 : D 115 0 p = 1
    · simp only [h0, h1, if_true, if_false]
      rfl
    · by_cases h2 : D 115 0 p = 2
      · by_cases h3 : D 118 0 p = -1
        · simp only [h0, h1, h2, h3, if_true, if_false]
          rfl
        · simp only [h0, h1, h2, h3, if_true, if_false]
          rfl
      · simp only [h0, h1, h2, if_false]
/-- what holds of the reference's book and choices -/
def MOk (D : pD) (cM cP : Nat) : Prop := cM ≤ 40 ∧ D 100 0 44 = nI cM ∧ cP ≤ 24 ∧ D 102 0 2 = nI cP ∧ (∀ p, p < 24 → MC D p) ∧ ∀ p, p < cP → vp_in (D 107 0 p) 12
theorem Mo_lostAll_loop {cM cP : Nat} (yr : Int32) (D : pD) (E : pDL) (h : MOk D cM cP) : ∀ (n k : Nat), k + n = cP → Mo_lostAll_4 yr (iS (lMv D cM yr) k) (nI k) D E = some (some (.inl (iS (lMv D cM yr) cP)), D, E)
  | 0, k, hk => by
    obtain rfl : k = cP := by omega
    rw [e_Mo_lostAll_4, h.2.2.2.1, if_pos (nI_le (Nat.le_refl _) (by have := h.2.2.1; omega))]
  | n + 1, k, hk => by
    obtain ⟨h1, h2, h3, h4, h5, h6⟩ := id h
    rw [e_Mo_lostAll_4, h4, if_neg (nI_ge (by omega) (by omega)), Mo_lostAt_spec h1 (by omega) yr D E h2 (h5 k (by omega)) (h6 k (by omega)), B1s, nI_1 k]
    exact Mo_lostAll_loop yr D E h n (k + 1) (by omega)
theorem Mo_lostAll_spec {cM cP : Nat} (yr : Int32) (D : pD) (E : pDL) (h : MOk D cM cP) : Mo_lostAll yr D E = some (some (.inl (iS (lMv D cM yr) cP)), D, E) := by
  rw [e_Mo_lostAll]
  exact Mo_lostAll_loop yr D E h cP 0 (by omega)

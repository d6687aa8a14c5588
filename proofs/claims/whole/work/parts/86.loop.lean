/-! THE TEXT: the loop over the clauses -/
section LOOP
variable {T : Nat → Int32} {n : Nat} {E : pDL} {D0 : pD}
theorem ch59 {c : Nat} (h : c ≤ 5) : chT c = 59 ↔ c = 3 := by
  have : c = 0 ∨ c = 1 ∨ c = 2 ∨ c = 3 ∨ c = 4 ∨ c = 5 := by omega
  rcases this with rfl | rfl | rfl | rfl | rfl | rfl <;> decide
theorem ch69 {c : Nat} (h : c ≤ 5) : chT c = 69 ↔ c = 5 := by
  have : c = 0 ∨ c = 1 ∨ c = 2 ∨ c = 3 ∨ c = 4 ∨ c = 5 := by omega
  rcases this with rfl | rfl | rfl | rfl | rfl | rfl <;> decide
theorem Tok.semi {q s e c : Nat} (h : Tok T n q s e c) (hc : c = 3) : q < e := by
  have hle := h.le
  rcases h.2 with ⟨_, _, h3⟩ | ⟨_, _, _, h3⟩ | ⟨_, _, _, h3⟩ | ⟨_, _, _, h3, _⟩
  · omega
  · split at h3 <;> omega
  · split at h3 <;> omega
  · omega
/-- what the reading of a whole text comes to -/
def OutL (T : Nat → Int32) (n : Nat) (D0 : pD) (E : pDL) (BX BM : Option pRes) : Prop := (∃ j DX' DM' EM' c0 c1 c2 c3 c4, j ≤ 1200 ∧ BX = some (some (.inl (nI j)), DX', E) ∧ BM = (pB0 (Mo_settle DM' EM') fun D1 E1 => some (some (.inl (nI j)), D1, E1)) ∧ Rd T n D0 DX' DM' EM' c0 c1 c2 c3 c4 c0 c1 c4) ∨ ∃ DX' DM' EM', BX = some (some (.inl (-1)), DX', E) ∧ BM = some (some (.inl (-1)), DM', EM') ∧ Fl D0 DX' DM'
theorem both_loop (hn : n ≤ 1200) (h8 : ∀ i, i < n → (T i).toInt8.toInt32 = T i) : ∀ (m q k : Nat) (DX DM : pD) (EM : pDL) (c0 c1 c2 c3 c4 : Nat), n - q ≤ m → k ≤ q → Sd T n D0 DX DM EM q c0 c1 c2 c3 c4 → OutL T n D0 E (Re_read_7 (nI k) DX E) (Mo_book_38 (nI k) DM EM) := by
  intro m
  induction m with
  | zero =>
    intro q k DX DM EM c0 c1 c2 c3 c4 hm hk h
    obtain ⟨R, h9, hq, ⟨s, e, c, ht, hlx⟩⟩ := h
    have hle := ht.le
    obtain ⟨D1, a1, a2, a3, a4⟩ := X_adv' (E := E) hn R.1 h9 ht
    have hc : c = 5 := by
      rcases ht.2 with ⟨_, _, h3⟩ | ⟨h3, _⟩ | ⟨h3, _⟩ | ⟨h3, _⟩
      · exact h3
      · omega
      · omega
      · omega
    left
    refine ⟨k, D1, DM, EM, c0, c1, c2, c3, c4, by omega, ?_, ?_, R.g a2 mG.rf (by decide) (by decide)⟩
    · rw [e_Re_read_7, if_neg (show ¬ (1200 : Int32) < nI k from nI_nlt (a := 1200) (by omega) (by omega)), a1, B0s, a4, if_pos ((ch69 hle.2.2.2).mpr hc)]
    · rw [e_Mo_book_38, hlx.2.2.1, hc, if_pos (by decide)]
  | succ m ih =>
    intro q k DX DM EM c0 c1 c2 c3 c4 hm hk h
    obtain ⟨R, h9, hq, ⟨s, e, c, ht, hlx⟩⟩ := h
    have hle := ht.le
    obtain ⟨D1, a1, a2, a3, a4⟩ := X_adv' (E := E) hn R.1 h9 ht
    have R1 := R.g a2 mG.rf (by decide) (by decide)
    by_cases hc : c = 5
    · left
      refine ⟨k, D1, DM, EM, c0, c1, c2, c3, c4, by omega, ?_, ?_, R1⟩
      · rw [e_Re_read_7, if_neg (show ¬ (1200 : Int32) < nI k from nI_nlt (a := 1200) (by omega) (by omega)), a1, B0s, a4, if_pos ((ch69 hle.2.2.2).mpr hc)]
      · rw [e_Mo_book_38, hlx.2.2.1, hc, if_pos (by decide)]
    · have hX : Re_read_7 (nI k) DX E = xCl (fun D4 E4 => pB1 (Re_readSemicolon D4 E4) fun y5 D5 E5 => if y5 = 0 then some (some (.inl (-1)), D5, E5) else Re_read_7 (nI k + 1) D5 E5) D1 E := by
        rw [e_Re_read_7, if_neg (show ¬ (1200 : Int32) < nI k from nI_nlt (a := 1200) (by omega) (by omega)), a1, B0s, a4, if_neg (fun z => hc ((ch69 hle.2.2.2).mp z))]
        rfl
      have hM : Mo_book_38 (nI k) DM EM = pB1 (Mo_readClause DM EM) fun y2 D2 E2 => if y2 = 0 then some (some (.inl (-1)), D2, E2) else if D2 100 0 3 = 3 then pB0 (Mo_scan D2 E2) fun D3 E3 => Mo_book_38 (nI k + 1) D3 E3 else pB1 (Mo_fails 1 D2 E2) fun y4 D4 E4 => some (some (.inl (-1)), D4, E4) := by
        rw [e_Mo_book_38, hlx.2.2.1, if_neg (show ¬ nI c = (5 : Int32) from fun z => hc ((iE (b := 5) (by omega) (by omega)).mp z))]
      rw [hX, hM]
      rcases clause (E := E) (fun D4 E4 => pB1 (Re_readSemicolon D4 E4) fun y5 D5 E5 => if y5 = 0 then some (some (.inl (-1)), D5, E5) else Re_read_7 (nI k + 1) D5 E5) hn h8 R1 ht hlx a3 a2.2.1 a4 with ⟨DX', DM', EM', q', d0, d1, d2, d3, d4, e1, e2, ⟨R2, g9, gq, ⟨s', e', c', ht', hlx'⟩⟩, hqq⟩ | ⟨DX', DM', EM', e1, e2, hf⟩
      · have hle' := ht'.le
        obtain ⟨D2, b1, b2, b3, b4⟩ := X_adv' (E := E) hn R2.1 g9 ht'
        have R3 := R2.g b2 mG.rf (by decide) (by decide)
        rw [e1, e2, B1s, if_neg (by decide)]
        by_cases hc' : c' = 3
        · have hlt := ht'.semi hc'
          obtain ⟨M3, E3, m1, m2, m3⟩ := M_next (D := DM') (E := EM') hn h8 R2.2.1 hlx'.2.1 hle'.2.2.1
          have R4 := R3.g (xG.rf b2.2.1) m2 (by decide) (by decide)
          have hx : Re_readSemicolon DX' E = some (some (.inl 1), D2, E) := by
            rw [e_Re_readSemicolon, b1, B0s, b4, if_pos ((ch59 hle'.2.2.2).mpr hc')]
          show OutL T n D0 E (pB1 (Re_readSemicolon DX' E) fun y5 D5 E5 => if y5 = 0 then some (some (.inl (-1)), D5, E5) else Re_read_7 (nI k + 1) D5 E5) _
          rw [hx, B1s, if_neg (by decide), hlx'.2.2.1, hc', if_pos (by decide), m1, B0s, nI1]
          exact ih e' (k + 1) D2 M3 E3 d0 d1 d2 d3 d4 (by omega) (by omega) ⟨R4, b2.2.1, hle'.2.2.1, m3⟩
        · obtain ⟨D3, g1, g2⟩ := X_ref (E := E) (D := D2) 1 b3
          obtain ⟨M3, g3, g4⟩ := M_fail (E := EM') (D := DM') 1 hlx'.1
          have hx : Re_readSemicolon DX' E = some (some (.inl 0), D3, E) := by
            rw [e_Re_readSemicolon, b1, B0s, b4, if_neg (fun z => hc' ((ch59 hle'.2.2.2).mp z)), show Re_refuse 1 _ E = _ from g1, B1s, if_pos rfl]
          right
          refine ⟨D3, M3, EM', ?_, ?_, Fl.of R3.2.2.2.2.2.2.1 R3.2.2.2.2.2.2.2 g2 g4⟩
          · show (pB1 (Re_readSemicolon DX' E) fun y5 D5 E5 => if y5 = 0 then some (some (.inl (-1)), D5, E5) else Re_read_7 (nI k + 1) D5 E5) = _
            rw [hx, B1s, if_pos rfl]
          · rw [hlx'.2.2.1, if_neg (show ¬ nI c' = (3 : Int32) from fun z => hc' ((iE (b := 3) (by omega) (by omega)).mp z)), show Mo_fails 1 _ EM' = _ from g3, B1s]
      · right
        exact ⟨DX', DM', EM', e1, by rw [e2, B1s, if_pos rfl], hf⟩
end LOOP

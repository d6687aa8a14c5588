/-! RUNS INSIDE THE CONSTRUCTORS -/
/-- fields put one after the other -/
def dsl (D : pD) (k : Nat) (l : List (Nat × Int32)) : pD := l.foldl (fun D q => dset D k 0 q.1 q.2) D
def dlk (l : List (Nat × Int32)) (o : Option Int32) (b : Nat) : Option Int32 := l.foldl (fun o q => if b = q.1 then some q.2 else o) o
theorem dsl_v {D0 : pD} {k b : Nat} : ∀ (l : List (Nat × Int32)) (D : pD) (o : Option Int32), D k 0 b = o.getD (D0 k 0 b) → dsl D k l k 0 b = (dlk l o b).getD (D0 k 0 b)
  | [], _, _, h => h
  | q :: l, D, o, h => by
    refine dsl_v l (dset D k 0 q.1 q.2) (if b = q.1 then some q.2 else o) ?_
    rw [dsA]
    by_cases e : b = q.1
    · rw [if_pos e, if_pos e]
      rfl
    · rw [if_neg e, if_neg e]
      exact h
theorem dsl_at {D : pD} {k b : Nat} {l : List (Nat × Int32)} {x : Int32} (h : dlk l none b = some x) : dsl D k l k 0 b = x := by
  rw [dsl_v (D0 := D) l D none rfl, h]
  rfl
theorem dsl_no {D : pD} {k b : Nat} {l : List (Nat × Int32)} (h : dlk l none b = none) : dsl D k l k 0 b = D k 0 b := by
  rw [dsl_v (D0 := D) l D none rfl, h]
  rfl
theorem dsl_ne {k k' : Nat} (h : k' ≠ k) : ∀ (l : List (Nat × Int32)) (D : pD), dsl D k l k' = D k'
  | [], _ => rfl
  | q :: l, D => (dsl_ne h l (dset D k 0 q.1 q.2)).trans (funext fun _ => dsN h)
theorem X_clear_held (D : pD) (E : pDL) : ∃ D', Bk_clear D E = some (none, D', E) ∧ Ko [4, 5, 6] D D' ∧ (∀ i, i < 5 → D' 4 0 i = 0) ∧ (D' 5 0 0 = 2 ∧ D' 5 0 1 = 1 ∧ D' 5 0 2 = 5 ∧ D' 5 0 3 = 1 ∧ D' 5 0 4 = 6) ∧ ∀ i, i < 24 → D' 6 0 i = 1 := by
  obtain ⟨D1, a1, a2, a3⟩ := fi_held_counts (E := E) (v := 0) 5 0 D rfl
  generalize hD2 : dset (dset (dset (dset (dset D1 5 0 0 2) 5 0 1 1) 5 0 2 5) 5 0 3 1) 5 0 4 6 = D2
  obtain ⟨D3, b1, b2, b3⟩ := fi_held_weights (E := E) (v := 1) 24 0 D2 rfl
  have k2 : Ko [5] D1 D2 := by
    rw [← hD2]
    exact ((((Ko.rf.set (by decide) _ _ _).set (by decide) _ _ _).set (by decide) _ _ _).set (by decide) _ _ _).set (by decide) _ _ _
  refine ⟨D3, ?_, ((a2.sub (by decide)).tr (k2.sub (by decide))).tr (b2.sub (by decide)), fun i hi => ?_, ?_, fun i hi => ?_⟩
  · rw [e_Bk_clear, e_Ja_fillI_held_counts, show Ja_fillI_held_counts_5 0 0 (nI 5) D E = _ from a1, B0s, hD2, e_Ja_fillI_held_weights, show Ja_fillI_held_weights_5 1 0 (nI 24) D2 E = _ from b1, B0s]
  · rw [b2.c (by decide), k2.c (by decide), a3 i hi, if_pos (by omega)]
  · simp (disch := decide) only [b2.c]
    rw [← hD2]
    simp (disch := decide) only [dsA, sNe, if_false, if_true, and_self]
  · rw [b3 i hi, if_pos (by omega)]
theorem X_clear_draft (D : pD) (E : pDL) : ∃ D', Bk_clear_draft D E = some (none, D', E) ∧ Ko [19, 20, 21] D D' ∧ (∀ i, i < 5 → D' 19 0 i = 0) ∧ (D' 20 0 0 = 2 ∧ D' 20 0 1 = 1 ∧ D' 20 0 2 = 5 ∧ D' 20 0 3 = 1 ∧ D' 20 0 4 = 6) ∧ ∀ i, i < 24 → D' 21 0 i = 1 := by
  obtain ⟨D1, a1, a2, a3⟩ := fi_counts (E := E) (v := 0) 5 0 D rfl
  generalize hD2 : dset (dset (dset (dset (dset D1 20 0 0 2) 20 0 1 1) 20 0 2 5) 20 0 3 1) 20 0 4 6 = D2
  obtain ⟨D3, b1, b2, b3⟩ := fi_weights (E := E) (v := 1) 24 0 D2 rfl
  have k2 : Ko [20] D1 D2 := by
    rw [← hD2]
    exact ((((Ko.rf.set (by decide) _ _ _).set (by decide) _ _ _).set (by decide) _ _ _).set (by decide) _ _ _).set (by decide) _ _ _
  refine ⟨D3, ?_, ((a2.sub (by decide)).tr (k2.sub (by decide))).tr (b2.sub (by decide)), fun i hi => ?_, ?_, fun i hi => ?_⟩
  · rw [e_Bk_clear_draft, e_Ja_fillI_draft_counts, show Ja_fillI_draft_counts_5 0 0 (nI 5) D E = _ from a1, B0s, hD2, e_Ja_fillI_draft_weights, show Ja_fillI_draft_weights_5 1 0 (nI 24) D2 E = _ from b1, B0s]
  · rw [b2.c (by decide), k2.c (by decide), a3 i hi, if_pos (by omega)]
  · simp (disch := decide) only [b2.c]
    rw [← hD2]
    simp (disch := decide) only [dsA, sNe, if_false, if_true, and_self]
  · rw [b3 i hi, if_pos (by omega)]
theorem X_rn_now (D : pD) (E : pDL) : ∃ D', Rn_clear D E = some (none, D', E) ∧ Ko [43, 44, 45, 46, 47] D D' ∧ ∀ i, i < 24 → D' 43 0 i = -1 ∧ D' 44 0 i = -1 ∧ D' 45 0 i = -1 ∧ D' 46 0 i = -1 ∧ D' 47 0 i = 0 := by
  obtain ⟨D1, u1, k1, c1⟩ := fi_kinds (E := E) (v := -1) 24 0 D rfl
  obtain ⟨D2, u2, k2, c2⟩ := fi_firsts (E := E) (v := -1) 24 0 D1 rfl
  obtain ⟨D3, u3, k3, c3⟩ := fi_seconds (E := E) (v := -1) 24 0 D2 rfl
  obtain ⟨D4, u4, k4, c4⟩ := fi_thirds (E := E) (v := -1) 24 0 D3 rfl
  obtain ⟨D5, u5, k5, c5⟩ := fi_notes (E := E) (v := 0) 24 0 D4 rfl
  refine ⟨D5, ?_, (((((k1.sub (by decide)).tr (k2.sub (by decide))).tr (k3.sub (by decide))).tr (k4.sub (by decide))).tr (k5.sub (by decide))), fun i hi => ⟨?_, ?_, ?_, ?_, ?_⟩⟩
  · rw [e_Rn_clear, e_Ja_fillI_now_kinds, show Ja_fillI_now_kinds_5 (-1) 0 (nI 24) D E = _ from u1, B0s, e_Ja_fillI_now_firsts, show Ja_fillI_now_firsts_5 (-1) 0 (nI 24) D1 E = _ from u2, B0s, e_Ja_fillI_now_seconds, show Ja_fillI_now_seconds_5 (-1) 0 (nI 24) D2 E = _ from u3, B0s, e_Ja_fillI_now_thirds, show Ja_fillI_now_thirds_5 (-1) 0 (nI 24) D3 E = _ from u4, B0s, e_Ja_fillI_now_notes, show Ja_fillI_now_notes_5 0 0 (nI 24) D4 E = _ from u5, B0s]
  · rw [k5.c (by decide), k4.c (by decide), k3.c (by decide), k2.c (by decide), c1 i hi, if_pos (by omega)]
  · rw [k5.c (by decide), k4.c (by decide), k3.c (by decide), c2 i hi, if_pos (by omega)]
  · rw [k5.c (by decide), k4.c (by decide), c3 i hi, if_pos (by omega)]
  · rw [k5.c (by decide), c4 i hi, if_pos (by omega)]
  · rw [c5 i hi, if_pos (by omega)]
theorem X_rn_k0 (D : pD) (E : pDL) : ∃ D', Rn_clear_k0 D E = some (none, D', E) ∧ Ko [77, 78, 79, 80, 81] D D' ∧ ∀ i, i < 24 → D' 77 0 i = -1 ∧ D' 78 0 i = -1 ∧ D' 79 0 i = -1 ∧ D' 80 0 i = -1 ∧ D' 81 0 i = 0 := by
  obtain ⟨D1, u1, k1, c1⟩ := fi_k0_kinds (E := E) (v := -1) 24 0 D rfl
  obtain ⟨D2, u2, k2, c2⟩ := fi_k0_firsts (E := E) (v := -1) 24 0 D1 rfl
  obtain ⟨D3, u3, k3, c3⟩ := fi_k0_seconds (E := E) (v := -1) 24 0 D2 rfl
  obtain ⟨D4, u4, k4, c4⟩ := fi_k0_thirds (E := E) (v := -1) 24 0 D3 rfl
  obtain ⟨D5, u5, k5, c5⟩ := fi_k0_notes (E := E) (v := 0) 24 0 D4 rfl
  refine ⟨D5, ?_, (((((k1.sub (by decide)).tr (k2.sub (by decide))).tr (k3.sub (by decide))).tr (k4.sub (by decide))).tr (k5.sub (by decide))), fun i hi => ⟨?_, ?_, ?_, ?_, ?_⟩⟩
  · rw [e_Rn_clear_k0, e_Ja_fillI_k0_kinds, show Ja_fillI_k0_kinds_5 (-1) 0 (nI 24) D E = _ from u1, B0s, e_Ja_fillI_k0_firsts, show Ja_fillI_k0_firsts_5 (-1) 0 (nI 24) D1 E = _ from u2, B0s, e_Ja_fillI_k0_seconds, show Ja_fillI_k0_seconds_5 (-1) 0 (nI 24) D2 E = _ from u3, B0s, e_Ja_fillI_k0_thirds, show Ja_fillI_k0_thirds_5 (-1) 0 (nI 24) D3 E = _ from u4, B0s, e_Ja_fillI_k0_notes, show Ja_fillI_k0_notes_5 0 0 (nI 24) D4 E = _ from u5, B0s]
  · rw [k5.c (by decide), k4.c (by decide), k3.c (by decide), k2.c (by decide), c1 i hi, if_pos (by omega)]
  · rw [k5.c (by decide), k4.c (by decide), k3.c (by decide), c2 i hi, if_pos (by omega)]
  · rw [k5.c (by decide), k4.c (by decide), c3 i hi, if_pos (by omega)]
  · rw [k5.c (by decide), c4 i hi, if_pos (by omega)]
  · rw [c5 i hi, if_pos (by omega)]
theorem X_rn_k1 (D : pD) (E : pDL) : ∃ D', Rn_clear_k1 D E = some (none, D', E) ∧ Ko [83, 84, 85, 86, 87] D D' ∧ ∀ i, i < 24 → D' 83 0 i = -1 ∧ D' 84 0 i = -1 ∧ D' 85 0 i = -1 ∧ D' 86 0 i = -1 ∧ D' 87 0 i = 0 := by
  obtain ⟨D1, u1, k1, c1⟩ := fi_k1_kinds (E := E) (v := -1) 24 0 D rfl
  obtain ⟨D2, u2, k2, c2⟩ := fi_k1_firsts (E := E) (v := -1) 24 0 D1 rfl
  obtain ⟨D3, u3, k3, c3⟩ := fi_k1_seconds (E := E) (v := -1) 24 0 D2 rfl
  obtain ⟨D4, u4, k4, c4⟩ := fi_k1_thirds (E := E) (v := -1) 24 0 D3 rfl
  obtain ⟨D5, u5, k5, c5⟩ := fi_k1_notes (E := E) (v := 0) 24 0 D4 rfl
  refine ⟨D5, ?_, (((((k1.sub (by decide)).tr (k2.sub (by decide))).tr (k3.sub (by decide))).tr (k4.sub (by decide))).tr (k5.sub (by decide))), fun i hi => ⟨?_, ?_, ?_, ?_, ?_⟩⟩
  · rw [e_Rn_clear_k1, e_Ja_fillI_k1_kinds, show Ja_fillI_k1_kinds_5 (-1) 0 (nI 24) D E = _ from u1, B0s, e_Ja_fillI_k1_firsts, show Ja_fillI_k1_firsts_5 (-1) 0 (nI 24) D1 E = _ from u2, B0s, e_Ja_fillI_k1_seconds, show Ja_fillI_k1_seconds_5 (-1) 0 (nI 24) D2 E = _ from u3, B0s, e_Ja_fillI_k1_thirds, show Ja_fillI_k1_thirds_5 (-1) 0 (nI 24) D3 E = _ from u4, B0s, e_Ja_fillI_k1_notes, show Ja_fillI_k1_notes_5 0 0 (nI 24) D4 E = _ from u5, B0s]
  · rw [k5.c (by decide), k4.c (by decide), k3.c (by decide), k2.c (by decide), c1 i hi, if_pos (by omega)]
  · rw [k5.c (by decide), k4.c (by decide), k3.c (by decide), c2 i hi, if_pos (by omega)]
  · rw [k5.c (by decide), k4.c (by decide), c3 i hi, if_pos (by omega)]
  · rw [k5.c (by decide), c4 i hi, if_pos (by omega)]
  · rw [c5 i hi, if_pos (by omega)]
theorem X_rn_k2 (D : pD) (E : pDL) : ∃ D', Rn_clear_k2 D E = some (none, D', E) ∧ Ko [89, 90, 91, 92, 93] D D' ∧ ∀ i, i < 24 → D' 89 0 i = -1 ∧ D' 90 0 i = -1 ∧ D' 91 0 i = -1 ∧ D' 92 0 i = -1 ∧ D' 93 0 i = 0 := by
  obtain ⟨D1, u1, k1, c1⟩ := fi_k2_kinds (E := E) (v := -1) 24 0 D rfl
  obtain ⟨D2, u2, k2, c2⟩ := fi_k2_firsts (E := E) (v := -1) 24 0 D1 rfl
  obtain ⟨D3, u3, k3, c3⟩ := fi_k2_seconds (E := E) (v := -1) 24 0 D2 rfl
  obtain ⟨D4, u4, k4, c4⟩ := fi_k2_thirds (E := E) (v := -1) 24 0 D3 rfl
  obtain ⟨D5, u5, k5, c5⟩ := fi_k2_notes (E := E) (v := 0) 24 0 D4 rfl
  refine ⟨D5, ?_, (((((k1.sub (by decide)).tr (k2.sub (by decide))).tr (k3.sub (by decide))).tr (k4.sub (by decide))).tr (k5.sub (by decide))), fun i hi => ⟨?_, ?_, ?_, ?_, ?_⟩⟩
  · rw [e_Rn_clear_k2, e_Ja_fillI_k2_kinds, show Ja_fillI_k2_kinds_5 (-1) 0 (nI 24) D E = _ from u1, B0s, e_Ja_fillI_k2_firsts, show Ja_fillI_k2_firsts_5 (-1) 0 (nI 24) D1 E = _ from u2, B0s, e_Ja_fillI_k2_seconds, show Ja_fillI_k2_seconds_5 (-1) 0 (nI 24) D2 E = _ from u3, B0s, e_Ja_fillI_k2_thirds, show Ja_fillI_k2_thirds_5 (-1) 0 (nI 24) D3 E = _ from u4, B0s, e_Ja_fillI_k2_notes, show Ja_fillI_k2_notes_5 0 0 (nI 24) D4 E = _ from u5, B0s]
  · rw [k5.c (by decide), k4.c (by decide), k3.c (by decide), k2.c (by decide), c1 i hi, if_pos (by omega)]
  · rw [k5.c (by decide), k4.c (by decide), k3.c (by decide), c2 i hi, if_pos (by omega)]
  · rw [k5.c (by decide), k4.c (by decide), c3 i hi, if_pos (by omega)]
  · rw [k5.c (by decide), c4 i hi, if_pos (by omega)]
  · rw [c5 i hi, if_pos (by omega)]
theorem X_rn_k3 (D : pD) (E : pDL) : ∃ D', Rn_clear_k3 D E = some (none, D', E) ∧ Ko [95, 96, 97, 98, 99] D D' ∧ ∀ i, i < 24 → D' 95 0 i = -1 ∧ D' 96 0 i = -1 ∧ D' 97 0 i = -1 ∧ D' 98 0 i = -1 ∧ D' 99 0 i = 0 := by
  obtain ⟨D1, u1, k1, c1⟩ := fi_k3_kinds (E := E) (v := -1) 24 0 D rfl
  obtain ⟨D2, u2, k2, c2⟩ := fi_k3_firsts (E := E) (v := -1) 24 0 D1 rfl
  obtain ⟨D3, u3, k3, c3⟩ := fi_k3_seconds (E := E) (v := -1) 24 0 D2 rfl
  obtain ⟨D4, u4, k4, c4⟩ := fi_k3_thirds (E := E) (v := -1) 24 0 D3 rfl
  obtain ⟨D5, u5, k5, c5⟩ := fi_k3_notes (E := E) (v := 0) 24 0 D4 rfl
  refine ⟨D5, ?_, (((((k1.sub (by decide)).tr (k2.sub (by decide))).tr (k3.sub (by decide))).tr (k4.sub (by decide))).tr (k5.sub (by decide))), fun i hi => ⟨?_, ?_, ?_, ?_, ?_⟩⟩
  · rw [e_Rn_clear_k3, e_Ja_fillI_k3_kinds, show Ja_fillI_k3_kinds_5 (-1) 0 (nI 24) D E = _ from u1, B0s, e_Ja_fillI_k3_firsts, show Ja_fillI_k3_firsts_5 (-1) 0 (nI 24) D1 E = _ from u2, B0s, e_Ja_fillI_k3_seconds, show Ja_fillI_k3_seconds_5 (-1) 0 (nI 24) D2 E = _ from u3, B0s, e_Ja_fillI_k3_thirds, show Ja_fillI_k3_thirds_5 (-1) 0 (nI 24) D3 E = _ from u4, B0s, e_Ja_fillI_k3_notes, show Ja_fillI_k3_notes_5 0 0 (nI 24) D4 E = _ from u5, B0s]
  · rw [k5.c (by decide), k4.c (by decide), k3.c (by decide), k2.c (by decide), c1 i hi, if_pos (by omega)]
  · rw [k5.c (by decide), k4.c (by decide), k3.c (by decide), c2 i hi, if_pos (by omega)]
  · rw [k5.c (by decide), k4.c (by decide), c3 i hi, if_pos (by omega)]
  · rw [k5.c (by decide), c4 i hi, if_pos (by omega)]
  · rw [c5 i hi, if_pos (by omega)]
theorem sd_in (E : pDL) (t : Nat) (ht : t < 24) : ∀ (n r : Nat) (D : pD), r + n = 2 ^ (t % 6) → ∃ D', Ko [22] D D' ∧ Bk_sumGroups_draft_26 (nI t) (nI (t / 6 * 64)) (nI (2 ^ (t % 6))) (nI r) D E = Bk_sumGroups_draft_2 (nI (t + 1)) D' E
  | 0, r, D, h => by
    obtain rfl : r = 2 ^ (t % 6) := by omega
    have hp : 2 ^ (t % 6) ≤ 2 ^ 5 := Nat.pow_le_pow_right (by omega) (by omega)
    refine ⟨D, Ko.rf, ?_⟩
    rw [e_Bk_sumGroups_draft_26, if_pos (nI_le (Nat.le_refl _) (by omega)), nI_1 t]
  | n + 1, r, D, h => by
    have hp : 2 ^ (t % 6) ≤ 2 ^ 5 := Nat.pow_le_pow_right (by omega) (by omega)
    have hr : r < 2 ^ (t % 6) := by omega
    have e1 : nI (t / 6 * 64) + nI r = nI (t / 6 * 64 + r) := nI_add _ _
    have e2 : nI (t / 6 * 64) + nI (2 ^ (t % 6)) + nI r = nI (t / 6 * 64 + 2 ^ (t % 6) + r) := by rw [nI_add, nI_add]
    obtain ⟨D', i1, i3⟩ := sd_in E t ht n (r + 1) (dset D 22 0 (t / 6 * 64 + 2 ^ (t % 6) + r) (D 22 0 (t / 6 * 64 + r) + D 21 0 t)) (by omega)
    refine ⟨D', (Ko.rf.set (by decide) _ _ _).tr i1, ?_⟩
    rw [e_Bk_sumGroups_draft_26, if_neg (nI_ge hr (by omega)), e1, e2, if_neg (iB (by omega) (by omega)), if_neg (iB ht (by omega)), if_neg (iB (by omega) (by omega)), iC (by omega), iC (by omega), iC (by omega), nI_1 r]
    exact i3
theorem sd_out (E : pDL) : ∀ (n t : Nat) (D : pD), t + n = 24 → ∃ D', Ko [22] D D' ∧ Bk_sumGroups_draft_2 (nI t) D E = some (none, D', E)
  | 0, t, D, h => by
    obtain rfl : t = 24 := by omega
    exact ⟨D, Ko.rf, by rw [e_Bk_sumGroups_draft_2, if_pos (by decide)]⟩
  | n + 1, t, D, h => by
    have ht : t < 24 := by omega
    have e1 : nI t / 6 * 64 = nI (t / 6 * 64) := by
      rw [show (6 : Int32) = nI 6 from rfl, pk_div (by omega) (by omega) (by omega), show (64 : Int32) = nI 64 from rfl, pk_mul]
    have e2 : nI t - nI t / 6 * 6 = nI (t % 6) := by
      rw [show (6 : Int32) = nI 6 from rfl]
      exact pk_rem (by omega) (by omega) (by omega)
    have e3 : (1 : Int32) <<< (nI (t % 6) &&& 31) = nI (2 ^ (t % 6)) := by
      have hp : 2 ^ (t % 6) ≤ 2 ^ 5 := Nat.pow_le_pow_right (by omega) (by omega)
      have := pk_shlN (n := 1) (nI (t % 6) &&& 31) (t % 6) (s_l _ (by omega)) (by omega)
      rw [Nat.one_mul] at this
      exact this
    obtain ⟨D1, i1, i3⟩ := sd_in E t ht (2 ^ (t % 6)) 0 D (by omega)
    obtain ⟨D', j1, j3⟩ := sd_out E n (t + 1) D1 (by omega)
    refine ⟨D', i1.tr j1, ?_⟩
    rw [e_Bk_sumGroups_draft_2, if_neg (nle 24 ht (by omega)), if_neg (by decide), if_neg (by decide), e1, e2, e3]
    exact i3.trans j3
theorem X_sum_draft (D : pD) (E : pDL) : ∃ D', Bk_sumGroups_draft D E = some (none, D', E) ∧ Ko [22] D D' := by
  obtain ⟨D', h1, h2⟩ := sd_out E 24 0 D rfl
  exact ⟨D', by rw [e_Bk_sumGroups_draft]; exact h2, h1⟩
/-! the same over other shapes -/
def klB (A : Nat → Bool) (S : List pSh) : Bool := ((List.range S.length).zip S).all fun x => !A x.1 || ((!(Nat.beq x.2.1 4) || x.2.2.2.all fun c => match c with
    | 0 => true
    | r + 1 => A r) && (Nat.ble x.2.1 6 || x.2.2.2.all fun c => match c with
    | c + 3 => A (pFr c).2
    | _ => true))
theorem klB_ok {A : Nat → Bool} {S : List pSh} (h : klB A S = true) : clT A S := by
  have key : ∀ k q, S[k]? = some q → A k = true → ((!(Nat.beq q.1 4) || q.2.2.all fun c => match c with
    | 0 => true
    | r + 1 => A r) && (Nat.ble q.1 6 || q.2.2.all fun c => match c with
    | c + 3 => A (pFr c).2
    | _ => true)) = true := by
    intro k q hq hA
    have hl : k < S.length := (List.getElem?_eq_some_iff.mp hq).1
    have h1 := List.all_eq_true.mp h (k, q) (List.mem_of_getElem? (i := k) (by rw [List.getElem?_zip_eq_some]; exact ⟨by rw [List.getElem?_range hl], hq⟩))
    rw [hA] at h1
    simpa using h1
  constructor
  · intro k q hq hA h4 r hr
    have h1 := (Bool.and_eq_true _ _ ▸ key k q hq hA).1
    rw [h4] at h1
    exact List.all_eq_true.mp (by simpa using h1) (r + 1) hr
  · intro k q hq hA h7 c hc
    have h1 := (Bool.and_eq_true _ _ ▸ key k q hq hA).2
    have h6 : Nat.ble q.1 6 = false := by
      cases hb : Nat.ble q.1 6 with
      | false => rfl
      | true => exact absurd (Nat.le_of_ble_eq_true hb) (by omega)
    rw [h6, Bool.false_or] at h1
    exact List.all_eq_true.mp h1 (c + 3) hc
def gdB (ms : Nat → Bool) (x : pX) : Bool := match x with
  | (ins, a, b, c, _, g, _) => match ins with
    | .ldc _ => Nat.beq b 0
    | .invokevirtual _ => Nat.beq c 0 || (ms a && Nat.ble g 1)
    | .invokestatic _ => Nat.beq c 0 || (ms a && Nat.ble g 1)
    | _ => true
theorem gdB_ok {ms : Nat → Bool} {x : pX} (h : gdB ms x = true) : gdX ms x := by
  obtain ⟨ins, a, b, c, w, g, z⟩ := x
  have two : (Nat.beq c 0 || (ms a && Nat.ble g 1)) = true → c ≠ 0 → ms a = true ∧ g ≤ 1 := by
    intro h hc
    rcases Bool.or_eq_true _ _ ▸ h with h | h
    · exact absurd (Nat.eq_of_beq_eq_true h) hc
    · have h2 := Bool.and_eq_true _ _ ▸ h
      exact ⟨h2.1, Nat.le_of_ble_eq_true h2.2⟩
  cases ins with
  | ldc i => exact Nat.eq_of_beq_eq_true h
  | invokevirtual i => exact two h
  | invokestatic i => exact two h
  | _ => exact trivial
def msL (l : List Nat) (k : Nat) : Bool := l.any fun q => Nat.beq q k
theorem gd_of {l : List Nat} {P : List pM} (h : (l.all fun me => match P[me]? with
    | some M => M.1.all fun q => gdB (msL l) q.2
    | none => true) = true) : gdP (msL l) P := by
  intro me M hm hM pc x hx
  obtain ⟨q, hq, e⟩ := List.any_eq_true.mp hm
  have e2 := Nat.eq_of_beq_eq_true e
  subst e2
  have h1 := List.all_eq_true.mp h q hq
  rw [hM] at h1
  exact gdB_ok (List.all_eq_true.mp h1 (pc, x) (pFind_mem hx))
theorem gd_book : gdP (msL [0, 7, 243]) Pr := gd_of (by decide +kernel)
theorem gd_rend : gdP (msL [56, 243]) Pr := gd_of (by decide +kernel)
theorem gd_model : gdP (msL [159, 160, 161]) Pr := gd_of (by decide +kernel)
def rgB (a b : Nat) (k : Nat) : Bool := Nat.ble a k && Nat.blt k b
theorem rgB_eq {a b : Nat} {S : List pSh} (h : ((List.range b).all fun k => !(Nat.ble a k) || decide (S[k]? = Sh[k]?)) = true) : ∀ k, rgB a b k = true → S[k]? = Sh[k]? := by
  intro k hk
  have h2 := Bool.and_eq_true _ _ ▸ hk
  have h3 : k < b := Nat.blt_eq ▸ h2.2
  have h4 := List.all_eq_true.mp h k (List.mem_range.mpr h3)
  rw [h2.1] at h4
  simpa using h4
theorem cl_b3 : clT (rgB 3 17) Sh := klB_ok (by decide +kernel)
theorem cl_b18 : clT (rgB 18 32) Sh := klB_ok (by decide +kernel)
def rg2 (a b : Nat) (k : Nat) : Bool := rgB 3 17 k || rgB a b k
theorem cl_now : clT (rg2 42 48) Sh := klB_ok (by decide +kernel)
theorem cl_k0 : clT (rg2 76 82) Sh := klB_ok (by decide +kernel)
theorem cl_k1 : clT (rg2 82 88) Sh := klB_ok (by decide +kernel)
theorem cl_k2 : clT (rg2 88 94) Sh := klB_ok (by decide +kernel)
theorem cl_k3 : clT (rg2 94 100) Sh := klB_ok (by decide +kernel)
theorem rg2_eq {a b : Nat} {S : List pSh} (h1 : ((List.range 17).all fun k => !(Nat.ble 3 k) || decide (S[k]? = Sh[k]?)) = true) (h2 : ((List.range b).all fun k => !(Nat.ble a k) || decide (S[k]? = Sh[k]?)) = true) : ∀ k, rg2 a b k = true → S[k]? = Sh[k]? := by
  intro k hk
  rcases Bool.or_eq_true _ _ ▸ hk with h | h
  · exact rgB_eq h1 k h
  · exact rgB_eq h2 k h
theorem cl_m : clT (rgB 100 143) Sh := klB_ok (by decide +kernel)

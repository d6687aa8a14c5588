/-! CLASS AND REFERENCE: a choice has and loses the same -/
theorem or_0 (x : Int32) : x ||| 0 = x := by
  apply b_ext
  intro i hi
  rw [b_or, b_0, Bool.or_false]
theorem zero_or (x : Int32) : 0 ||| x = x := by
  apply b_ext
  intro i hi
  rw [b_or, b_0, Bool.false_or]
/-- a choice of the class as it may be, n words -/
def XC (n : Nat) (kd a b c : Int32) : Prop := (kd = -1 ∧ a = -1 ∧ b = -1 ∧ c = -1) ∨ (kd = 0 ∧ vp_in a n ∧ b = -1 ∧ c = -1) ∨ (kd = 1 ∧ vp_in a n ∧ vp_in b n ∧ c = -1) ∨ (kd = 2 ∧ vp_in a n ∧ vp_in b n ∧ (c = -1 ∨ vp_in c n)) ∨ (kd = 3 ∧ a = -1 ∧ b = -1 ∧ c = -1)
theorem in_mono {x : Int32} {n m : Nat} (h : vp_in x n) (hm : n ≤ m) : vp_in x m := fun q => h (q.imp id (fun z => by omega))
theorem tO_none (wt : Nat → Int32) : tO wt (-1) = 0 := if_pos (Or.inl (by decide))
theorem tO_in (wt : Nat → Int32) {x : Int32} (h : vp_in x 20) : tO wt x = wt x.toNatClampNeg := by
  obtain ⟨j, hj, rfl⟩ := vp_in_of h (by omega)
  exact if_neg (fun q => q.elim (iN (by omega)) (nI_ge hj (by omega)))
theorem in_ne {x : Int32} {n : Nat} (h : vp_in x n) : ¬ x = -1 := by
  intro e
  subst e
  exact h (Or.inl (by decide))
theorem hM_tA {n : Nat} {tw : Int32 → Int32} {wt : Nat → Int32} {kd a b c : Int32} (hn : n ≤ 20) (hx : XC n kd a b c) (ht : ∀ x, vp_in x n → tw x = wt x.toNatClampNeg) : hM tw kd a b c = tA wt a b c := by
  unfold hM tA
  rcases hx with ⟨rfl, rfl, rfl, rfl⟩ | ⟨rfl, ha, rfl, rfl⟩ | ⟨rfl, ha, hb, rfl⟩ | ⟨rfl, ha, hb, hc⟩ | ⟨rfl, rfl, rfl, rfl⟩
  · rw [if_pos rfl, tO_none, or_0, or_0]
  · rw [if_neg (by decide), if_neg (by decide), if_pos rfl, tO_none, tO_in wt (in_mono ha hn), ht a ha, or_0, or_0]
  · rw [if_neg (by decide), if_neg (by decide), if_neg (by decide), if_neg (by decide), tO_none, tO_in wt (in_mono ha hn), tO_in wt (in_mono hb hn), ht a ha, ht b hb, or_0]
  · rw [if_neg (by decide), if_neg (by decide), if_neg (by decide), if_pos rfl]
    rcases hc with rfl | hc
    · rw [if_pos rfl, tO_none, tO_in wt (in_mono ha hn), tO_in wt (in_mono hb hn), ht a ha, ht b hb, or_0]
    · rw [if_neg (in_ne hc), tO_in wt (in_mono ha hn), tO_in wt (in_mono hb hn), tO_in wt (in_mono hc hn), ht a ha, ht b hb, ht c hc]
  · rw [if_neg (by decide), if_pos rfl, tO_none, or_0, or_0]
theorem lM_lA {n : Nat} {la ad lo bo : Int32} {w : Nat → Int32} {be no nt x kd a b c : Int32} (hx : XC n kd a b c) : lM la ad lo bo w be no nt x kd c = lA la ad lo bo w be no nt x kd b c := by
  unfold lM lA beh
  by_cases hk : kd = -1
  · rw [if_pos hk, if_pos hk]
  · rw [if_neg hk, if_neg hk, Int32.mul_comm lo]
    congr 2
    congr 1
    rcases hx with ⟨rfl, rfl, rfl, rfl⟩ | ⟨rfl, ha, rfl, rfl⟩ | ⟨rfl, ha, hb, rfl⟩ | ⟨rfl, ha, hb, hc⟩ | ⟨rfl, rfl, rfl, rfl⟩
    · exact absurd rfl hk
    · decide
    · rw [if_pos rfl, if_neg (in_ne hb), if_pos rfl]
      decide
    · rw [if_neg (by decide), if_pos rfl, if_neg (in_ne hb)]
      rcases hc with rfl | hc
      · rw [if_pos rfl, if_pos rfl]
        decide
      · rw [if_neg (in_ne hc), if_neg (in_ne hc)]
        decide
    · decide
/-- the two choices at a place are one -/
def SC (n : Nat) (kd a b c kd' a' b' c' : Int32) : Prop := XC n kd a b c ∧ kd' = kd ∧ (kd ≠ -1 → a' = a ∧ b' = b ∧ c' = c)
theorem SC.vc {n : Nat} (hn : n ≤ 20) {kd a b c kd' a' b' c' : Int32} (h : SC n kd a b c kd' a' b' c') : VC kd' a' b' c' := by
  obtain ⟨hx, rfl, hw⟩ := h
  rcases hx with ⟨h0, -⟩ | ⟨h0, ha, -⟩ | ⟨h0, ha, hb, -⟩ | ⟨h0, ha, hb, hc⟩ | ⟨h0, -⟩
  · exact Or.inl h0
  · obtain ⟨e1, e2, e3⟩ := hw (by rw [h0]; decide)
    exact Or.inr (Or.inl ⟨h0, by rw [e1]; exact in_mono ha hn⟩)
  · obtain ⟨e1, e2, e3⟩ := hw (by rw [h0]; decide)
    exact Or.inr (Or.inr (Or.inl ⟨h0, by rw [e1]; exact in_mono ha hn, by rw [e2]; exact in_mono hb hn⟩))
  · obtain ⟨e1, e2, e3⟩ := hw (by rw [h0]; decide)
    exact Or.inr (Or.inr (Or.inr (Or.inl ⟨h0, by rw [e1]; exact in_mono ha hn, by rw [e2]; exact in_mono hb hn, by rw [e3]; exact hc.imp id (fun q => in_mono q hn)⟩)))
  · exact Or.inr (Or.inr (Or.inr (Or.inr h0)))
theorem SC.eqH {n : Nat} {kd a b c kd' a' b' c' : Int32} (h : SC n kd a b c kd' a' b' c') (tw : Int32 → Int32) : hM tw kd' a' b' c' = hM tw kd a b c := by
  obtain ⟨hx, rfl, hw⟩ := h
  by_cases h0 : kd' = -1
  · unfold hM
    rw [if_pos h0, if_pos h0]
  · obtain ⟨rfl, rfl, rfl⟩ := hw h0
    rfl
theorem SC.eqL {n : Nat} {kd a b c kd' a' b' c' : Int32} (h : SC n kd a b c kd' a' b' c') {la ad lo bo : Int32} {w : Nat → Int32} {be no nt x : Int32} : lM la ad lo bo w be no nt x kd' c' = lA la ad lo bo w be no nt x kd b c := by
  obtain ⟨hx, rfl, hw⟩ := h
  by_cases h0 : kd' = -1
  · unfold lM lA
    rw [if_pos h0, if_pos h0]
  · obtain ⟨rfl, rfl, rfl⟩ := hw h0
    exact lM_lA hx
theorem iS_w {w w' : Nat → Int32} (x : Int32) (h : ∀ t, t < 24 → w t = w' t) : wS w x 24 = wS w' x 24 := iS_cong (fun k hk => by rw [h k hk])
theorem lT_cong {la ad : Int32} {w w' : Nat → Int32} {be no nt x : Int32} (h : ∀ t, t < 24 → w t = w' t) : lT la ad w be no nt x = lT la ad w' be no nt x := by
  unfold lT
  rw [iS_w _ h, iS_w _ h]
theorem lA_cong {la ad lo bo : Int32} {w w' : Nat → Int32} {be no nt x kd b c : Int32} (h : ∀ t, t < 24 → w t = w' t) : lA la ad lo bo w be no nt x kd b c = lA la ad lo bo w' be no nt x kd b c := by
  unfold lA
  rw [lT_cong h]

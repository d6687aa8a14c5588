/-! THE TEXT: both readers, piece by piece -/
section BOTH
variable {T : Nat → Int32} {n : Nat} {E : pDL}
/-- the reference stands at the token behind q -/
def lxA (T : Nat → Int32) (n : Nat) (D : pD) (E : pDL) (q : Nat) : Prop := ∃ s e c, Tok T n q s e c ∧ lxM D E T s e c
theorem M_next {D : pD} {E : pDL} {q : Nat} (hn : n ≤ 1200) (h8 : ∀ i, i < n → (T i).toInt8.toInt32 = T i) (h : MB T n D) (h6 : D 100 0 6 = nI q) (hq : q ≤ n) : ∃ D' E', Mo_scan D E = some (none, D', E') ∧ mG D D' E E' [] ∧ lxA T n D' E' q := by
  obtain ⟨s, e, c, ht⟩ := tok_ex T hq
  obtain ⟨D', E', a1, a2, a3⟩ := M_scan' (E := E) hn h8 h h6 ht
  exact ⟨D', E', a1, a2, s, e, c, ht, a3⟩
theorem mG.set {D D' : pD} {E E' : pDL} {x : Nat} {v : Int32} (h : mG (dset D 100 0 x v) D' E E' []) (hx : x ∉ [3, 4, 5, 6, 7]) : mG D D' E E' [x] ∧ D' 100 0 x = v := by
  refine ⟨⟨fun k hk => ?_, fun i i1 i2 => ?_, h.2.2⟩, ?_⟩
  · rw [h.1 k hk]
    simp only [List.mem_cons, List.not_mem_nil, or_false] at hk
    funext j
    rw [dsN hk]
  · simp only [List.mem_cons, List.not_mem_nil, or_false] at i2
    rw [h.2.1 i i1 (by simp), dsA, if_neg i2]
  · rw [h.2.1 x hx (by simp), dsA, if_pos rfl]
/-- a set -/
theorem both_set {DX DM : pD} {EM : pDL} {q s e c : Nat} (hn : n ≤ 1200) (h8 : ∀ i, i < n → (T i).toInt8.toInt32 = T i) (hx : XB T n DX) (h9 : DX 17 0 9 = nI q) (hm : MB T n DM) (ht : Tok T n q s e c) (hl : lxM DM EM T s e c) :
    (∃ v DX' DM' EM', Re_readSet DX E = some (some (.inl 1), DX', E) ∧ xG DX DX' e [11] ∧ (DX' 17 0 11 = v ∧ DX' 17 0 8 = nI s) ∧ Mo_setHere DM EM = some (some (.inl v), DM, EM) ∧ ¬ v < 0 ∧ Mo_readSet DM EM = some (some (.inl 1), DM', EM') ∧ mG DM DM' EM EM' [12] ∧ DM' 100 0 12 = v ∧ lxA T n DM' EM' e) ∨
    (∃ f DX' DM', Re_readSet DX E = some (some (.inl 0), DX', E) ∧ xF DX DX' f s ∧ Mo_setHere DM EM = some (some (.inl (-1)), DM', EM) ∧ Mo_readSet DM EM = some (some (.inl 0), DM', EM) ∧ mF DM DM' f s) := by
  have hle := ht.le
  rcases set_di T s e c with ⟨v, hv⟩ | ⟨f, hf⟩
  · left
    obtain ⟨DX', x1, x2, x3⟩ := X_set_ok (E := E) hn hx h9 ht hv
    obtain ⟨m1, m2⟩ := M_set_ok (E := EM) hn h8 hm ht hl hv
    have hB' : MB T n (dset DM 100 0 12 v) := ⟨by rw [dsA, if_neg (by decide)]; exact hm.1, fun i hi => by rw [dsN (by decide)]; exact hm.2 i hi⟩
    obtain ⟨DM', EM', a1, a2, a3⟩ := M_next (D := dset DM 100 0 12 v) (E := EM) hn h8 hB' (show _ = nI e by rw [dsA, if_neg (by decide)]; exact hl.2.1) (by omega)
    obtain ⟨g1, g2⟩ := a2.set (by decide)
    refine ⟨v, DX', DM', EM', x1, x2, x3, m1, m2, ?_, g1, g2, a3⟩
    rw [e_Mo_readSet, m1, B1s, if_pos (by rw [iNL]; exact m2), a1, B0s]
  · right
    obtain ⟨DX', x1, x2⟩ := X_set_bad (E := E) hn hx h9 ht hf
    obtain ⟨DM', m1, m2⟩ := M_set_bad (E := EM) hn h8 hm ht hl hf
    refine ⟨f, DX', DM', x1, x2, m1, ?_, m2⟩
    rw [e_Mo_readSet, m1, B1s, if_neg (by decide)]
/-- a number -/
theorem both_num {DX DM : pD} {EM : pDL} {q s e c lo H : Nat} (hn : n ≤ 1200) (h8 : ∀ i, i < n → (T i).toInt8.toInt32 = T i) (hx : XB T n DX) (h9 : DX 17 0 9 = nI q) (hm : MB T n DM) (ht : Tok T n q s e c) (hl : lxM DM EM T s e c) (hH : H < 2147483648) (hlo : lo < 2147483648) :
    (∃ v DX' DM' EM', v < 1000 ∧ lo ≤ v ∧ v < H ∧ c = 2 ∧ DM 100 0 7 = nI v ∧ Re_readNumber (nI lo) (nI H - 1) DX E = some (some (.inl 1), DX', E) ∧ xG DX DX' e [12] ∧ (DX' 17 0 12 = nI v ∧ DX' 17 0 8 = nI s) ∧ Mo_readNumber (nI lo) (nI H - 1) DM EM = some (some (.inl 1), DM', EM') ∧ mG DM DM' EM EM' [12] ∧ DM' 100 0 12 = nI v ∧ lxA T n DM' EM' e) ∨
    (∃ f DX' DM', ((f = 1 ∧ c ≠ 2) ∨ (f = 2 ∧ c = 2 ∧ ∃ v, v < 1000 ∧ DM 100 0 7 = nI v ∧ (v < lo ∨ H ≤ v))) ∧ Re_readNumber (nI lo) (nI H - 1) DX E = some (some (.inl 0), DX', E) ∧ xF DX DX' f s ∧ Mo_readNumber (nI lo) (nI H - 1) DM EM = some (some (.inl 0), DM', EM) ∧ mF DM DM' f s) := by
  have hle := ht.le
  obtain ⟨l1, l2, l3, l4, l5⟩ := id hl
  rcases num_di T s e c lo H with ⟨v, hv⟩ | ⟨f, hf⟩
  · left
    obtain ⟨DX', x1, x2, x3⟩ := X_num_ok (E := E) hn hx h9 ht hH hlo hv
    obtain ⟨hc, hv1, hv2, hv3⟩ := hv
    have hvv := nv_1000 ht hc
    have l5' := l5 hc
    rw [← hv1] at l5' hvv
    have hB' : MB T n (dset DM 100 0 12 (nI v)) := ⟨by rw [dsA, if_neg (by decide)]; exact hm.1, fun i hi => by rw [dsN (by decide)]; exact hm.2 i hi⟩
    obtain ⟨DM', EM', a1, a2, a3⟩ := M_next (D := dset DM 100 0 12 (nI v)) (E := EM) hn h8 hB' (show _ = nI e by rw [dsA, if_neg (by decide)]; exact l2) (by omega)
    obtain ⟨g1, g2⟩ := a2.set (by decide)
    refine ⟨v, DX', DM', EM', hvv, hv2, hv3, hc, l5', x1, x2, x3, ?_, g1, g2, a3⟩
    rw [e_Mo_readNumber, l3, hc, if_pos (by decide), l5', M_in_ok (by omega) hH hv2 hv3, B1s, if_neg (by decide), l5', a1, B0s]
  · right
    obtain ⟨DX', x1, x2⟩ := X_num_bad (E := E) hn hx h9 ht hH hlo hf
    rcases hf with ⟨hc, rfl, hv⟩ | ⟨hc, rfl⟩
    · have hvv := nv_1000 ht hc
      obtain ⟨DM', m1, m2⟩ := M_fail (E := EM) 2 l1
      refine ⟨2, DX', DM', Or.inr ⟨rfl, hc, _, hvv, l5 hc, hv⟩, x1, x2, ?_, m2⟩
      rw [e_Mo_readNumber, l3, hc, if_pos (by decide), l5 hc, M_in_bad (by omega) hH hlo hv, B1s, if_pos rfl, show Mo_fails 2 _ EM = _ from m1, B1s, if_pos and_00]
    · obtain ⟨DM', m1, m2⟩ := M_fail (E := EM) 1 l1
      refine ⟨1, DX', DM', Or.inl ⟨rfl, hc⟩, x1, x2, ?_, m2⟩
      rw [e_Mo_readNumber, l3, if_neg (show ¬ nI c = (2 : Int32) from fun z => hc ((iE (b := 2) (by omega) (by omega)).mp z)), show Mo_fails 1 _ EM = _ from m1, B1s, if_pos and_00]
theorem ch97 {c : Nat} (h : c ≤ 5) : chT c = 97 ↔ c = 1 := by
  have : c = 0 ∨ c = 1 ∨ c = 2 ∨ c = 3 ∨ c = 4 ∨ c = 5 := by omega
  rcases this with rfl | rfl | rfl | rfl | rfl | rfl <;> decide
/-- a new name -/
theorem both_nn {DX DM : pD} {EM : pDL} {q cnt : Nat} (hn : n ≤ 1200) (h8 : ∀ i, i < n → (T i).toInt8.toInt32 = T i) (hx : XB T n DX) (h9 : DX 17 0 9 = nI q) (hq : q ≤ n) (hm : MB T n DM) (h6 : DM 100 0 6 = nI q) (hc : cnt < 12) (h102 : DM 102 0 (10 + 0) = nI cnt) (hr : nmR DX EM T n 32 0 cnt) :
    (∃ s e DX' DM' EM', q ≤ s ∧ s < e ∧ e ≤ n ∧ Re_readNewName_nn DX E = some (some (.inl 1), DX', E) ∧ Ko [17, 32, 33, 34] DX DX' ∧ XB T n DX' ∧ DX' 17 0 9 = nI e ∧ (∀ i, i ∉ [8, 9, 10] → DX' 17 0 i = DX 17 0 i) ∧ Mo_readName 0 0 12 DM EM = some (some (.inl 1), DM', EM') ∧ Ko [100] DM DM' ∧ (∀ i, i ∉ [3, 4, 5, 6, 7] → DM' 100 0 i = DM 100 0 i) ∧ (∀ i, i ≠ 0 + cnt → EM' 103 i = EM 103 i ∧ EM' 104 i = EM 104 i) ∧ nmR DX' EM' T n 32 0 (cnt + 1) ∧ lxA T n DM' EM' e) ∨
    (∃ f s DX' DM' EM', Re_readNewName_nn DX E = some (some (.inl 0), DX', E) ∧ xF DX DX' f s ∧ Mo_readName 0 0 12 DM EM = some (some (.inl 0), DM', EM') ∧ Ko [100] DM DM' ∧ (∀ i, i ∉ [3, 4, 5, 6, 7, 8, 9] → DM' 100 0 i = DM 100 0 i) ∧ DM' 100 0 8 = nI f ∧ DM' 100 0 9 = nI s) := by
  obtain ⟨s, e, c, ht⟩ := tok_ex T hq
  have hle := ht.le
  obtain ⟨D1, a1, a2, a3, a4⟩ := X_adv' (E := E) hn hx h9 ht
  have hx1 := hx.g a2 (by decide) (by decide)
  obtain ⟨M1, E1, b1, b2, b3⟩ := M_scan' (E := EM) hn h8 hm h6 ht
  have hm1 := hm.g b2 (by decide)
  have hE1 : ∀ k, k ≠ 100 → E1 k = EM k := b2.2.2
  have hr1 : nmR D1 E1 T n 32 0 cnt := by
    obtain ⟨r1, r2⟩ := hr
    refine ⟨by rw [a2.1.c (by decide)]; exact r1, fun i hi => ?_⟩
    obtain ⟨x, y, e1, e2, e3, e4, e5⟩ := r2 i hi
    exact ⟨x, y, by rw [a2.1.c (by decide)]; exact e1, by rw [a2.1.c (by decide)]; exact e2, e3, by rw [hE1 103 (by decide)]; exact e4, by rw [hE1 104 (by decide)]; exact e5⟩
  obtain ⟨l1, l2, l3, l4, l5⟩ := id b3
  have h102' : DM 102 0 10 = nI cnt := h102
  have hfull : ¬ nI cnt = (12 : Int32) := fun z => by have := (iE (b := 12) (by omega) (by omega)).mp z; omega
  have start : Mo_readName 0 0 12 DM EM = (if (M1 100 0 3) = 1 then (pB1 (Mo_named 0 (nI cnt) M1 E1) fun y3 D3 E3 => (if y3 = (-1 : Int32) then (if ((0 : Int32) + nI cnt) < 0 ∨ 64 ≤ ((0 : Int32) + nI cnt).toNatClampNeg then none else (if ((0 : Int32) + nI cnt) < 0 ∨ 64 ≤ ((0 : Int32) + nI cnt).toNatClampNeg then none else (pB0 (Mo_scan D3 (lset (lset E3 103 ((0 : Int32) + nI cnt).toNatClampNeg (E3 100 10)) 104 ((0 : Int32) + nI cnt).toNatClampNeg (E3 100 11))) fun D4 E4 => (some (some (.inl (1 : Int32)), D4, E4))))) else (pB1 (Mo_fails 3 D3 E3) fun y5 D5 E5 => (if y5 &&& 1 = y5 then some (some (.inl y5), D5, E5) else none)))) else (pB1 (Mo_fails 1 M1 E1) fun y6 D6 E6 => (if y6 &&& 1 = y6 then some (some (.inl y6), D6, E6) else none))) := by
    rw [e_Mo_readName, show (10 : Int32) + 0 = nI 10 from rfl, if_neg (iB (by omega) (by omega)), iC (by omega), h102', if_neg hfull, b1, B0s]
  by_cases hc1 : c = 1
  · obtain ⟨hw, hse⟩ := ht.wd hc1
    obtain ⟨k1, k2, k3⟩ := l4 hc1
    have h97 : D1 17 0 10 = 97 := by rw [a4]; exact (ch97 hle.2.2.2).mpr hc1
    have hs1 : M1 100 0 3 = 1 := by rw [l3, hc1]; rfl
    obtain ⟨nm1, nm2⟩ := M_named (DM := M1) hr1 hn (by omega) hw k2 k3
    rcases X_find_nn (E := E) hn hx1.1 hr1 (by omega) hle.2.1 hle.2.2.1 with ⟨i, f1, f2, f3, f4⟩ | ⟨f1, f2⟩
    · right
      obtain ⟨D2, g1, g2⟩ := X_ref (E := E) (D := D1) 3 a3
      obtain ⟨M2, g3, g4⟩ := M_fail (E := E1) (D := M1) 3 l1
      refine ⟨3, s, D2, M2, E1, ?_, ⟨a2.1.tr g2.1, g2.2⟩, ?_, b2.1.tr g4.1, fun j hj => ?_, g4.2.2⟩
      · rw [e_Re_readNewName_nn, a1, B0s, if_pos h97, if_pos hx1.2.1, a3, a2.2.1, f4, B1s, if_neg (iM (by omega)), show Re_refuse 3 _ E = _ from g1, B1s, if_pos and_00]
      · rw [start, if_pos hs1, show Mo_named 0 (nI cnt) M1 E1 = _ from nm1 i f1 f2 f3, B1s, if_neg (iM (by omega)), show Mo_fails 3 _ E1 = _ from g3, B1s, if_pos and_00]
      · simp only [List.mem_cons, List.not_mem_nil, or_false, not_or] at hj
        rw [g4.2.1 j hj.2.2.2.2.2.1 hj.2.2.2.2.2.2, b2.2.1 j (by simp only [List.mem_cons, List.not_mem_nil, or_false, not_or]; exact ⟨hj.1, hj.2.1, hj.2.2.1, hj.2.2.2.1, hj.2.2.2.2.1⟩) (by simp)]
    · left
      have hcell : (0 : Int32) + nI cnt = nI (0 + cnt) := nI_add 0 cnt
      obtain ⟨M2, E2, g1, g2, g3⟩ := M_next (D := M1) (E := lset (lset E1 103 (0 + cnt) (E1 100 10)) 104 (0 + cnt) (E1 100 11)) hn h8 hm1 l2 hle.2.2.1
      have r1 := hr1.1
      have ap : Na_append_nn (nI s) (nI e) D1 E = some (none, dset (dset (dset D1 33 0 cnt (nI s)) 34 0 cnt (nI e)) 32 0 2 (nI (cnt + 1)), E) := by
        rw [e_Na_append_nn, r1]
        simp (disch := omega) only [sC, sN, sN0, sLL, sTT, sEE, sM1, sF, sGt, sLe, sLt, sNe, or_false, or_true, false_or, true_or, or_self, if_true, if_false, not_true_eq_false, not_false_eq_true, B1s, B0s, B2s, cl20, cn20, ct20, cu20, ce20, cf20, ca1]
      generalize hD2 : dset (dset (dset D1 33 0 cnt (nI s)) 34 0 cnt (nI e)) 32 0 2 (nI (cnt + 1)) = D2 at ap
      have kD2 : Ko [32, 33, 34] D1 D2 := by
        rw [← hD2]
        exact ((Ko.rf.set (by decide) _ _ _).set (by decide) _ _ _).set (by decide) _ _ _
      have E103 : ∀ i, i ≠ 0 + cnt → E2 103 i = EM 103 i ∧ E2 104 i = EM 104 i := by
        intro i hi
        rw [g2.2.2 103 (by decide), g2.2.2 104 (by decide), lset_ne' (by decide), lset_at, if_neg hi, lset_at, if_neg hi, lset_ne' (by decide), hE1 103 (by decide), hE1 104 (by decide)]
        exact ⟨rfl, rfl⟩
      refine ⟨s, e, D2, M2, E2, hle.1, hse, hle.2.2.1, ?_, ?_, ⟨by rw [kD2 2 (by decide)]; exact hx1.1, by rw [kD2.c (by decide)]; exact hx1.2.1, by rw [kD2.c (by decide)]; exact hx1.2.2⟩, by rw [kD2.c (by decide), a2.2.1], fun i hi => by rw [kD2.c (by decide), a2.2.2 i hi (by simp)], ?_, b2.1.tr g2.1, fun i hi => by rw [g2.2.1 i hi (by simp), b2.2.1 i hi (by simp)], E103, ⟨?_, fun i hi => ?_⟩, g3⟩
      · rw [e_Re_readNewName_nn, a1, B0s, if_pos h97, if_pos hx1.2.1, a3, a2.2.1, f2, B1s, if_pos rfl, a3, a2.2.1, ap, B0s]
      · exact (a2.1.sub (by decide)).tr (kD2.sub (by decide))
      · rw [start, if_pos hs1, show Mo_named 0 (nI cnt) M1 E1 = _ from nm2 f1, B1s, if_pos rfl, hcell, if_neg (iB (by omega) (by omega)), if_neg (iB (by omega) (by omega)), iC (by omega), g1, B0s]
      · rw [← hD2, dsA, if_pos rfl]
      · by_cases z : i = cnt
        · subst z
          refine ⟨s, e, ?_, ?_, hw, ?_, ?_⟩
          · rw [← hD2]
            simp (disch := decide) only [dsN, dsA, if_true, Nat.reduceAdd]
          · rw [← hD2]
            simp (disch := decide) only [dsN, dsA, if_true, Nat.reduceAdd]
          · rw [g2.2.2 103 (by decide), lset_ne' (by decide), lset_at, if_pos rfl, k2]
          · rw [g2.2.2 104 (by decide), lset_at, if_pos rfl, k3]
        · obtain ⟨x, y, e1, e2, e3, e4, e5⟩ := hr.2 i (by omega)
          refine ⟨x, y, ?_, ?_, e3, ?_, ?_⟩
          · rw [← hD2]
            simp (disch := decide) only [dsN, dsA, z, if_false, Nat.reduceAdd]
            rw [a2.1.c (by decide)]
            exact e1
          · rw [← hD2]
            simp (disch := decide) only [dsN, dsA, z, if_false, Nat.reduceAdd]
            rw [a2.1.c (by decide)]
            exact e2
          · rw [(E103 (0 + i) (by omega)).1]
            exact e4
          · rw [(E103 (0 + i) (by omega)).2]
            exact e5
  · right
    have h97 : ¬ D1 17 0 10 = 97 := by rw [a4]; exact fun z => hc1 ((ch97 hle.2.2.2).mp z)
    have hs1 : ¬ M1 100 0 3 = 1 := by rw [l3]; exact fun z => hc1 ((iE (b := 1) (by omega) (by omega)).mp z)
    obtain ⟨D2, g1, g2⟩ := X_ref (E := E) (D := D1) 1 a3
    obtain ⟨M2, g3, g4⟩ := M_fail (E := E1) (D := M1) 1 l1
    refine ⟨1, s, D2, M2, E1, ?_, ⟨a2.1.tr g2.1, g2.2⟩, ?_, b2.1.tr g4.1, fun j hj => ?_, g4.2.2⟩
    · rw [e_Re_readNewName_nn, a1, B0s, if_neg h97, show Re_refuse 1 _ E = _ from g1, B1s, if_pos and_00]
    · rw [start, if_neg hs1, show Mo_fails 1 _ E1 = _ from g3, B1s, if_pos and_00]
    · simp only [List.mem_cons, List.not_mem_nil, or_false, not_or] at hj
      rw [g4.2.1 j hj.2.2.2.2.2.1 hj.2.2.2.2.2.2, b2.2.1 j (by simp only [List.mem_cons, List.not_mem_nil, or_false, not_or]; exact ⟨hj.1, hj.2.1, hj.2.2.1, hj.2.2.2.1, hj.2.2.2.2.1⟩) (by simp)]
/-- a new name -/
theorem both_nw {DX DM : pD} {EM : pDL} {q cnt : Nat} (hn : n ≤ 1200) (h8 : ∀ i, i < n → (T i).toInt8.toInt32 = T i) (hx : XB T n DX) (h9 : DX 17 0 9 = nI q) (hq : q ≤ n) (hm : MB T n DM) (h6 : DM 100 0 6 = nI q) (hc : cnt < 20) (h102 : DM 102 0 (10 + 1) = nI cnt) (hr : nmR DX EM T n 35 20 cnt) :
    (∃ s e DX' DM' EM', q ≤ s ∧ s < e ∧ e ≤ n ∧ Re_readNewName_nw DX E = some (some (.inl 1), DX', E) ∧ Ko [17, 35, 36, 37] DX DX' ∧ XB T n DX' ∧ DX' 17 0 9 = nI e ∧ (∀ i, i ∉ [8, 9, 10] → DX' 17 0 i = DX 17 0 i) ∧ Mo_readName 1 20 20 DM EM = some (some (.inl 1), DM', EM') ∧ Ko [100] DM DM' ∧ (∀ i, i ∉ [3, 4, 5, 6, 7] → DM' 100 0 i = DM 100 0 i) ∧ (∀ i, i ≠ 20 + cnt → EM' 103 i = EM 103 i ∧ EM' 104 i = EM 104 i) ∧ nmR DX' EM' T n 35 20 (cnt + 1) ∧ lxA T n DM' EM' e) ∨
    (∃ f s DX' DM' EM', Re_readNewName_nw DX E = some (some (.inl 0), DX', E) ∧ xF DX DX' f s ∧ Mo_readName 1 20 20 DM EM = some (some (.inl 0), DM', EM') ∧ Ko [100] DM DM' ∧ (∀ i, i ∉ [3, 4, 5, 6, 7, 8, 9] → DM' 100 0 i = DM 100 0 i) ∧ DM' 100 0 8 = nI f ∧ DM' 100 0 9 = nI s) := by
  obtain ⟨s, e, c, ht⟩ := tok_ex T hq
  have hle := ht.le
  obtain ⟨D1, a1, a2, a3, a4⟩ := X_adv' (E := E) hn hx h9 ht
  have hx1 := hx.g a2 (by decide) (by decide)
  obtain ⟨M1, E1, b1, b2, b3⟩ := M_scan' (E := EM) hn h8 hm h6 ht
  have hm1 := hm.g b2 (by decide)
  have hE1 : ∀ k, k ≠ 100 → E1 k = EM k := b2.2.2
  have hr1 : nmR D1 E1 T n 35 20 cnt := by
    obtain ⟨r1, r2⟩ := hr
    refine ⟨by rw [a2.1.c (by decide)]; exact r1, fun i hi => ?_⟩
    obtain ⟨x, y, e1, e2, e3, e4, e5⟩ := r2 i hi
    exact ⟨x, y, by rw [a2.1.c (by decide)]; exact e1, by rw [a2.1.c (by decide)]; exact e2, e3, by rw [hE1 103 (by decide)]; exact e4, by rw [hE1 104 (by decide)]; exact e5⟩
  obtain ⟨l1, l2, l3, l4, l5⟩ := id b3
  have h102' : DM 102 0 11 = nI cnt := h102
  have hfull : ¬ nI cnt = (20 : Int32) := fun z => by have := (iE (b := 20) (by omega) (by omega)).mp z; omega
  have start : Mo_readName 1 20 20 DM EM = (if (M1 100 0 3) = 1 then (pB1 (Mo_named 20 (nI cnt) M1 E1) fun y3 D3 E3 => (if y3 = (-1 : Int32) then (if ((20 : Int32) + nI cnt) < 0 ∨ 64 ≤ ((20 : Int32) + nI cnt).toNatClampNeg then none else (if ((20 : Int32) + nI cnt) < 0 ∨ 64 ≤ ((20 : Int32) + nI cnt).toNatClampNeg then none else (pB0 (Mo_scan D3 (lset (lset E3 103 ((20 : Int32) + nI cnt).toNatClampNeg (E3 100 10)) 104 ((20 : Int32) + nI cnt).toNatClampNeg (E3 100 11))) fun D4 E4 => (some (some (.inl (1 : Int32)), D4, E4))))) else (pB1 (Mo_fails 3 D3 E3) fun y5 D5 E5 => (if y5 &&& 1 = y5 then some (some (.inl y5), D5, E5) else none)))) else (pB1 (Mo_fails 1 M1 E1) fun y6 D6 E6 => (if y6 &&& 1 = y6 then some (some (.inl y6), D6, E6) else none))) := by
    rw [e_Mo_readName, show (10 : Int32) + 1 = nI 11 from rfl, if_neg (iB (by omega) (by omega)), iC (by omega), h102', if_neg hfull, b1, B0s]
  by_cases hc1 : c = 1
  · obtain ⟨hw, hse⟩ := ht.wd hc1
    obtain ⟨k1, k2, k3⟩ := l4 hc1
    have h97 : D1 17 0 10 = 97 := by rw [a4]; exact (ch97 hle.2.2.2).mpr hc1
    have hs1 : M1 100 0 3 = 1 := by rw [l3, hc1]; rfl
    obtain ⟨nm1, nm2⟩ := M_named (DM := M1) hr1 hn (by omega) hw k2 k3
    rcases X_find_nw (E := E) hn hx1.1 hr1 (by omega) hle.2.1 hle.2.2.1 with ⟨i, f1, f2, f3, f4⟩ | ⟨f1, f2⟩
    · right
      obtain ⟨D2, g1, g2⟩ := X_ref (E := E) (D := D1) 3 a3
      obtain ⟨M2, g3, g4⟩ := M_fail (E := E1) (D := M1) 3 l1
      refine ⟨3, s, D2, M2, E1, ?_, ⟨a2.1.tr g2.1, g2.2⟩, ?_, b2.1.tr g4.1, fun j hj => ?_, g4.2.2⟩
      · rw [e_Re_readNewName_nw, a1, B0s, if_pos h97, if_pos hx1.2.1, a3, a2.2.1, f4, B1s, if_neg (iM (by omega)), show Re_refuse 3 _ E = _ from g1, B1s, if_pos and_00]
      · rw [start, if_pos hs1, show Mo_named 20 (nI cnt) M1 E1 = _ from nm1 i f1 f2 f3, B1s, if_neg (iM (by omega)), show Mo_fails 3 _ E1 = _ from g3, B1s, if_pos and_00]
      · simp only [List.mem_cons, List.not_mem_nil, or_false, not_or] at hj
        rw [g4.2.1 j hj.2.2.2.2.2.1 hj.2.2.2.2.2.2, b2.2.1 j (by simp only [List.mem_cons, List.not_mem_nil, or_false, not_or]; exact ⟨hj.1, hj.2.1, hj.2.2.1, hj.2.2.2.1, hj.2.2.2.2.1⟩) (by simp)]
    · left
      have hcell : (20 : Int32) + nI cnt = nI (20 + cnt) := nI_add 20 cnt
      obtain ⟨M2, E2, g1, g2, g3⟩ := M_next (D := M1) (E := lset (lset E1 103 (20 + cnt) (E1 100 10)) 104 (20 + cnt) (E1 100 11)) hn h8 hm1 l2 hle.2.2.1
      have r1 := hr1.1
      have ap : Na_append_nw (nI s) (nI e) D1 E = some (none, dset (dset (dset D1 36 0 cnt (nI s)) 37 0 cnt (nI e)) 35 0 2 (nI (cnt + 1)), E) := by
        rw [e_Na_append_nw, r1]
        simp (disch := omega) only [sC, sN, sN0, sLL, sTT, sEE, sM1, sF, sGt, sLe, sLt, sNe, or_false, or_true, false_or, true_or, or_self, if_true, if_false, not_true_eq_false, not_false_eq_true, B1s, B0s, B2s, cl20, cn20, ct20, cu20, ce20, cf20, ca1]
      generalize hD2 : dset (dset (dset D1 36 0 cnt (nI s)) 37 0 cnt (nI e)) 35 0 2 (nI (cnt + 1)) = D2 at ap
      have kD2 : Ko [35, 36, 37] D1 D2 := by
        rw [← hD2]
        exact ((Ko.rf.set (by decide) _ _ _).set (by decide) _ _ _).set (by decide) _ _ _
      have E103 : ∀ i, i ≠ 20 + cnt → E2 103 i = EM 103 i ∧ E2 104 i = EM 104 i := by
        intro i hi
        rw [g2.2.2 103 (by decide), g2.2.2 104 (by decide), lset_ne' (by decide), lset_at, if_neg hi, lset_at, if_neg hi, lset_ne' (by decide), hE1 103 (by decide), hE1 104 (by decide)]
        exact ⟨rfl, rfl⟩
      refine ⟨s, e, D2, M2, E2, hle.1, hse, hle.2.2.1, ?_, ?_, ⟨by rw [kD2 2 (by decide)]; exact hx1.1, by rw [kD2.c (by decide)]; exact hx1.2.1, by rw [kD2.c (by decide)]; exact hx1.2.2⟩, by rw [kD2.c (by decide), a2.2.1], fun i hi => by rw [kD2.c (by decide), a2.2.2 i hi (by simp)], ?_, b2.1.tr g2.1, fun i hi => by rw [g2.2.1 i hi (by simp), b2.2.1 i hi (by simp)], E103, ⟨?_, fun i hi => ?_⟩, g3⟩
      · rw [e_Re_readNewName_nw, a1, B0s, if_pos h97, if_pos hx1.2.1, a3, a2.2.1, f2, B1s, if_pos rfl, a3, a2.2.1, ap, B0s]
      · exact (a2.1.sub (by decide)).tr (kD2.sub (by decide))
      · rw [start, if_pos hs1, show Mo_named 20 (nI cnt) M1 E1 = _ from nm2 f1, B1s, if_pos rfl, hcell, if_neg (iB (by omega) (by omega)), if_neg (iB (by omega) (by omega)), iC (by omega), g1, B0s]
      · rw [← hD2, dsA, if_pos rfl]
      · by_cases z : i = cnt
        · subst z
          refine ⟨s, e, ?_, ?_, hw, ?_, ?_⟩
          · rw [← hD2]
            simp (disch := decide) only [dsN, dsA, if_true, Nat.reduceAdd]
          · rw [← hD2]
            simp (disch := decide) only [dsN, dsA, if_true, Nat.reduceAdd]
          · rw [g2.2.2 103 (by decide), lset_ne' (by decide), lset_at, if_pos rfl, k2]
          · rw [g2.2.2 104 (by decide), lset_at, if_pos rfl, k3]
        · obtain ⟨x, y, e1, e2, e3, e4, e5⟩ := hr.2 i (by omega)
          refine ⟨x, y, ?_, ?_, e3, ?_, ?_⟩
          · rw [← hD2]
            simp (disch := decide) only [dsN, dsA, z, if_false, Nat.reduceAdd]
            rw [a2.1.c (by decide)]
            exact e1
          · rw [← hD2]
            simp (disch := decide) only [dsN, dsA, z, if_false, Nat.reduceAdd]
            rw [a2.1.c (by decide)]
            exact e2
          · rw [(E103 (20 + i) (by omega)).1]
            exact e4
          · rw [(E103 (20 + i) (by omega)).2]
            exact e5
  · right
    have h97 : ¬ D1 17 0 10 = 97 := by rw [a4]; exact fun z => hc1 ((ch97 hle.2.2.2).mp z)
    have hs1 : ¬ M1 100 0 3 = 1 := by rw [l3]; exact fun z => hc1 ((iE (b := 1) (by omega) (by omega)).mp z)
    obtain ⟨D2, g1, g2⟩ := X_ref (E := E) (D := D1) 1 a3
    obtain ⟨M2, g3, g4⟩ := M_fail (E := E1) (D := M1) 1 l1
    refine ⟨1, s, D2, M2, E1, ?_, ⟨a2.1.tr g2.1, g2.2⟩, ?_, b2.1.tr g4.1, fun j hj => ?_, g4.2.2⟩
    · rw [e_Re_readNewName_nw, a1, B0s, if_neg h97, show Re_refuse 1 _ E = _ from g1, B1s, if_pos and_00]
    · rw [start, if_neg hs1, show Mo_fails 1 _ E1 = _ from g3, B1s, if_pos and_00]
    · simp only [List.mem_cons, List.not_mem_nil, or_false, not_or] at hj
      rw [g4.2.1 j hj.2.2.2.2.2.1 hj.2.2.2.2.2.2, b2.2.1 j (by simp only [List.mem_cons, List.not_mem_nil, or_false, not_or]; exact ⟨hj.1, hj.2.1, hj.2.2.1, hj.2.2.2.1, hj.2.2.2.2.1⟩) (by simp)]
/-- a new name -/
theorem both_nh {DX DM : pD} {EM : pDL} {q cnt : Nat} (hn : n ≤ 1200) (h8 : ∀ i, i < n → (T i).toInt8.toInt32 = T i) (hx : XB T n DX) (h9 : DX 17 0 9 = nI q) (hq : q ≤ n) (hm : MB T n DM) (h6 : DM 100 0 6 = nI q) (hc : cnt < 6) (h102 : DM 102 0 (10 + 4) = nI cnt) (hr : nmR DX EM T n 38 40 cnt) :
    (∃ s e DX' DM' EM', q ≤ s ∧ s < e ∧ e ≤ n ∧ Re_readNewName_nh DX E = some (some (.inl 1), DX', E) ∧ Ko [17, 38, 39, 40] DX DX' ∧ XB T n DX' ∧ DX' 17 0 9 = nI e ∧ (∀ i, i ∉ [8, 9, 10] → DX' 17 0 i = DX 17 0 i) ∧ Mo_readName 4 40 6 DM EM = some (some (.inl 1), DM', EM') ∧ Ko [100] DM DM' ∧ (∀ i, i ∉ [3, 4, 5, 6, 7] → DM' 100 0 i = DM 100 0 i) ∧ (∀ i, i ≠ 40 + cnt → EM' 103 i = EM 103 i ∧ EM' 104 i = EM 104 i) ∧ nmR DX' EM' T n 38 40 (cnt + 1) ∧ lxA T n DM' EM' e) ∨
    (∃ f s DX' DM' EM', Re_readNewName_nh DX E = some (some (.inl 0), DX', E) ∧ xF DX DX' f s ∧ Mo_readName 4 40 6 DM EM = some (some (.inl 0), DM', EM') ∧ Ko [100] DM DM' ∧ (∀ i, i ∉ [3, 4, 5, 6, 7, 8, 9] → DM' 100 0 i = DM 100 0 i) ∧ DM' 100 0 8 = nI f ∧ DM' 100 0 9 = nI s) := by
  obtain ⟨s, e, c, ht⟩ := tok_ex T hq
  have hle := ht.le
  obtain ⟨D1, a1, a2, a3, a4⟩ := X_adv' (E := E) hn hx h9 ht
  have hx1 := hx.g a2 (by decide) (by decide)
  obtain ⟨M1, E1, b1, b2, b3⟩ := M_scan' (E := EM) hn h8 hm h6 ht
  have hm1 := hm.g b2 (by decide)
  have hE1 : ∀ k, k ≠ 100 → E1 k = EM k := b2.2.2
  have hr1 : nmR D1 E1 T n 38 40 cnt := by
    obtain ⟨r1, r2⟩ := hr
    refine ⟨by rw [a2.1.c (by decide)]; exact r1, fun i hi => ?_⟩
    obtain ⟨x, y, e1, e2, e3, e4, e5⟩ := r2 i hi
    exact ⟨x, y, by rw [a2.1.c (by decide)]; exact e1, by rw [a2.1.c (by decide)]; exact e2, e3, by rw [hE1 103 (by decide)]; exact e4, by rw [hE1 104 (by decide)]; exact e5⟩
  obtain ⟨l1, l2, l3, l4, l5⟩ := id b3
  have h102' : DM 102 0 14 = nI cnt := h102
  have hfull : ¬ nI cnt = (6 : Int32) := fun z => by have := (iE (b := 6) (by omega) (by omega)).mp z; omega
  have start : Mo_readName 4 40 6 DM EM = (if (M1 100 0 3) = 1 then (pB1 (Mo_named 40 (nI cnt) M1 E1) fun y3 D3 E3 => (if y3 = (-1 : Int32) then (if ((40 : Int32) + nI cnt) < 0 ∨ 64 ≤ ((40 : Int32) + nI cnt).toNatClampNeg then none else (if ((40 : Int32) + nI cnt) < 0 ∨ 64 ≤ ((40 : Int32) + nI cnt).toNatClampNeg then none else (pB0 (Mo_scan D3 (lset (lset E3 103 ((40 : Int32) + nI cnt).toNatClampNeg (E3 100 10)) 104 ((40 : Int32) + nI cnt).toNatClampNeg (E3 100 11))) fun D4 E4 => (some (some (.inl (1 : Int32)), D4, E4))))) else (pB1 (Mo_fails 3 D3 E3) fun y5 D5 E5 => (if y5 &&& 1 = y5 then some (some (.inl y5), D5, E5) else none)))) else (pB1 (Mo_fails 1 M1 E1) fun y6 D6 E6 => (if y6 &&& 1 = y6 then some (some (.inl y6), D6, E6) else none))) := by
    rw [e_Mo_readName, show (10 : Int32) + 4 = nI 14 from rfl, if_neg (iB (by omega) (by omega)), iC (by omega), h102', if_neg hfull, b1, B0s]
  by_cases hc1 : c = 1
  · obtain ⟨hw, hse⟩ := ht.wd hc1
    obtain ⟨k1, k2, k3⟩ := l4 hc1
    have h97 : D1 17 0 10 = 97 := by rw [a4]; exact (ch97 hle.2.2.2).mpr hc1
    have hs1 : M1 100 0 3 = 1 := by rw [l3, hc1]; rfl
    obtain ⟨nm1, nm2⟩ := M_named (DM := M1) hr1 hn (by omega) hw k2 k3
    rcases X_find_nh (E := E) hn hx1.1 hr1 (by omega) hle.2.1 hle.2.2.1 with ⟨i, f1, f2, f3, f4⟩ | ⟨f1, f2⟩
    · right
      obtain ⟨D2, g1, g2⟩ := X_ref (E := E) (D := D1) 3 a3
      obtain ⟨M2, g3, g4⟩ := M_fail (E := E1) (D := M1) 3 l1
      refine ⟨3, s, D2, M2, E1, ?_, ⟨a2.1.tr g2.1, g2.2⟩, ?_, b2.1.tr g4.1, fun j hj => ?_, g4.2.2⟩
      · rw [e_Re_readNewName_nh, a1, B0s, if_pos h97, if_pos hx1.2.1, a3, a2.2.1, f4, B1s, if_neg (iM (by omega)), show Re_refuse 3 _ E = _ from g1, B1s, if_pos and_00]
      · rw [start, if_pos hs1, show Mo_named 40 (nI cnt) M1 E1 = _ from nm1 i f1 f2 f3, B1s, if_neg (iM (by omega)), show Mo_fails 3 _ E1 = _ from g3, B1s, if_pos and_00]
      · simp only [List.mem_cons, List.not_mem_nil, or_false, not_or] at hj
        rw [g4.2.1 j hj.2.2.2.2.2.1 hj.2.2.2.2.2.2, b2.2.1 j (by simp only [List.mem_cons, List.not_mem_nil, or_false, not_or]; exact ⟨hj.1, hj.2.1, hj.2.2.1, hj.2.2.2.1, hj.2.2.2.2.1⟩) (by simp)]
    · left
      have hcell : (40 : Int32) + nI cnt = nI (40 + cnt) := nI_add 40 cnt
      obtain ⟨M2, E2, g1, g2, g3⟩ := M_next (D := M1) (E := lset (lset E1 103 (40 + cnt) (E1 100 10)) 104 (40 + cnt) (E1 100 11)) hn h8 hm1 l2 hle.2.2.1
      have r1 := hr1.1
      have ap : Na_append_nh (nI s) (nI e) D1 E = some (none, dset (dset (dset D1 39 0 cnt (nI s)) 40 0 cnt (nI e)) 38 0 2 (nI (cnt + 1)), E) := by
        rw [e_Na_append_nh, r1]
        simp (disch := omega) only [sC, sN, sN0, sLL, sTT, sEE, sM1, sF, sGt, sLe, sLt, sNe, or_false, or_true, false_or, true_or, or_self, if_true, if_false, not_true_eq_false, not_false_eq_true, B1s, B0s, B2s, cl20, cn20, ct20, cu20, ce20, cf20, ca1]
      generalize hD2 : dset (dset (dset D1 39 0 cnt (nI s)) 40 0 cnt (nI e)) 38 0 2 (nI (cnt + 1)) = D2 at ap
      have kD2 : Ko [38, 39, 40] D1 D2 := by
        rw [← hD2]
        exact ((Ko.rf.set (by decide) _ _ _).set (by decide) _ _ _).set (by decide) _ _ _
      have E103 : ∀ i, i ≠ 40 + cnt → E2 103 i = EM 103 i ∧ E2 104 i = EM 104 i := by
        intro i hi
        rw [g2.2.2 103 (by decide), g2.2.2 104 (by decide), lset_ne' (by decide), lset_at, if_neg hi, lset_at, if_neg hi, lset_ne' (by decide), hE1 103 (by decide), hE1 104 (by decide)]
        exact ⟨rfl, rfl⟩
      refine ⟨s, e, D2, M2, E2, hle.1, hse, hle.2.2.1, ?_, ?_, ⟨by rw [kD2 2 (by decide)]; exact hx1.1, by rw [kD2.c (by decide)]; exact hx1.2.1, by rw [kD2.c (by decide)]; exact hx1.2.2⟩, by rw [kD2.c (by decide), a2.2.1], fun i hi => by rw [kD2.c (by decide), a2.2.2 i hi (by simp)], ?_, b2.1.tr g2.1, fun i hi => by rw [g2.2.1 i hi (by simp), b2.2.1 i hi (by simp)], E103, ⟨?_, fun i hi => ?_⟩, g3⟩
      · rw [e_Re_readNewName_nh, a1, B0s, if_pos h97, if_pos hx1.2.1, a3, a2.2.1, f2, B1s, if_pos rfl, a3, a2.2.1, ap, B0s]
      · exact (a2.1.sub (by decide)).tr (kD2.sub (by decide))
      · rw [start, if_pos hs1, show Mo_named 40 (nI cnt) M1 E1 = _ from nm2 f1, B1s, if_pos rfl, hcell, if_neg (iB (by omega) (by omega)), if_neg (iB (by omega) (by omega)), iC (by omega), g1, B0s]
      · rw [← hD2, dsA, if_pos rfl]
      · by_cases z : i = cnt
        · subst z
          refine ⟨s, e, ?_, ?_, hw, ?_, ?_⟩
          · rw [← hD2]
            simp (disch := decide) only [dsN, dsA, if_true, Nat.reduceAdd]
          · rw [← hD2]
            simp (disch := decide) only [dsN, dsA, if_true, Nat.reduceAdd]
          · rw [g2.2.2 103 (by decide), lset_ne' (by decide), lset_at, if_pos rfl, k2]
          · rw [g2.2.2 104 (by decide), lset_at, if_pos rfl, k3]
        · obtain ⟨x, y, e1, e2, e3, e4, e5⟩ := hr.2 i (by omega)
          refine ⟨x, y, ?_, ?_, e3, ?_, ?_⟩
          · rw [← hD2]
            simp (disch := decide) only [dsN, dsA, z, if_false, Nat.reduceAdd]
            rw [a2.1.c (by decide)]
            exact e1
          · rw [← hD2]
            simp (disch := decide) only [dsN, dsA, z, if_false, Nat.reduceAdd]
            rw [a2.1.c (by decide)]
            exact e2
          · rw [(E103 (40 + i) (by omega)).1]
            exact e4
          · rw [(E103 (40 + i) (by omega)).2]
            exact e5
  · right
    have h97 : ¬ D1 17 0 10 = 97 := by rw [a4]; exact fun z => hc1 ((ch97 hle.2.2.2).mp z)
    have hs1 : ¬ M1 100 0 3 = 1 := by rw [l3]; exact fun z => hc1 ((iE (b := 1) (by omega) (by omega)).mp z)
    obtain ⟨D2, g1, g2⟩ := X_ref (E := E) (D := D1) 1 a3
    obtain ⟨M2, g3, g4⟩ := M_fail (E := E1) (D := M1) 1 l1
    refine ⟨1, s, D2, M2, E1, ?_, ⟨a2.1.tr g2.1, g2.2⟩, ?_, b2.1.tr g4.1, fun j hj => ?_, g4.2.2⟩
    · rw [e_Re_readNewName_nh, a1, B0s, if_neg h97, show Re_refuse 1 _ E = _ from g1, B1s, if_pos and_00]
    · rw [start, if_neg hs1, show Mo_fails 1 _ E1 = _ from g3, B1s, if_pos and_00]
    · simp only [List.mem_cons, List.not_mem_nil, or_false, not_or] at hj
      rw [g4.2.1 j hj.2.2.2.2.2.1 hj.2.2.2.2.2.2, b2.2.1 j (by simp only [List.mem_cons, List.not_mem_nil, or_false, not_or]; exact ⟨hj.1, hj.2.1, hj.2.2.1, hj.2.2.2.1, hj.2.2.2.2.1⟩) (by simp)]
end BOTH

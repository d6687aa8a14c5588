/-! feed -/
theorem nnl' (n : Nat) {k : Nat} (h : k ≤ n) (hn : n < 2147483648) : nI k ≤ (OfNat.ofNat n : Int32) := nI_le h hn
theorem nle_of' (n : Nat) {k : Nat} (h : n < k) (hk : k < 2147483648) : ¬ nI k ≤ (OfNat.ofNat n : Int32) := nI_ge h hk
def bv (x : Int32) (s : Nat) : Int32 := (x >>> (nI s &&& 31)).toInt8.toInt32.toInt8.toInt32
def bXs (D : pD) (n : Nat) (b : Int32) : pD := dset (dset D 2 0 n b) 1 0 1 (nI (n + 1))
def bMs (D : pD) (n : Nat) (b : Int32) : pD := dset (dset D 101 0 n b) 100 0 1 (nI (n + 1))
def fXs (D : pD) (n : Nat) : List Int32 → pD
  | [] => D
  | b :: l => fXs (bXs D n b) (n + 1) l
def fMs (D : pD) (n : Nat) : List Int32 → pD
  | [] => D
  | b :: l => fMs (bMs D n b) (n + 1) l
def fBs (D : pD) (n : Nat) : List Int32 → pD
  | [] => D
  | b :: l => fBs (bMs (bXs D n b) n b) (n + 1) l
theorem fBs_cmb : ∀ (l : List Int32) (D1 D2 : pD) (n : Nat), cmb (fXs D1 n l) (fMs D2 n l) = fBs (cmb D1 D2) n l
  | [], _, _, _ => rfl
  | b :: l, D1, D2, n => by
    rw [fXs, fMs, fBs, fBs_cmb l]
    unfold bXs bMs
    rw [cmb_sm (by decide), cmb_sm (by decide), cmb_sx (by decide), cmb_sx (by decide)]
theorem fXs_app : ∀ (l l' : List Int32) (D : pD) (n : Nat), fXs D n (l ++ l') = fXs (fXs D n l) (n + l.length) l'
  | [], _, _, _ => rfl
  | b :: l, l', D, n => by
    rw [List.cons_append, fXs, fXs, fXs_app l, List.length_cons, show n + 1 + l.length = n + (l.length + 1) by omega]
theorem fMs_app : ∀ (l l' : List Int32) (D : pD) (n : Nat), fMs D n (l ++ l') = fMs (fMs D n l) (n + l.length) l'
  | [], _, _, _ => rfl
  | b :: l, l', D, n => by
    rw [List.cons_append, fMs, fMs, fMs_app l, List.length_cons, show n + 1 + l.length = n + (l.length + 1) by omega]
def by4 (x : Int32) : List Int32 := [bv x 24, bv x 16, bv x 8, bv x 0]
theorem bXs_1 (D : pD) (n : Nat) (b : Int32) : bXs D n b 1 0 1 = nI (n + 1) := by unfold bXs; rw [dsA, if_pos rfl]
theorem bMs_1 (D : pD) (n : Nat) (b : Int32) : bMs D n b 100 0 1 = nI (n + 1) := by unfold bMs; rw [dsA, if_pos rfl]
theorem X_byte {s n : Nat} (hn : n < 1200) (x : Int32) (D : pD) (E : pDL) (h : D 1 0 1 = nI n) (hs : s < 32) : Ta_append_3 x (nI s) D E = Ta_append_3 x (nI s + -8) (bXs D n (bv x s)) E := by
  rw [e_Ta_append_3]
  simp (disch := omega) only [sC, sN, sN0, sLL, sTT, sEE, sM1, sF, sGt, sLe, sLt, sNe, or_false, or_true, false_or, true_or, or_self, if_true, if_false, not_true_eq_false, not_false_eq_true, B1s, B0s, B2s, h, cl1200, cn1200, ct1200, cu1200, ce1200, cf1200, ca1]
  rfl
theorem X_app {n : Nat} (hn : n ≤ 1196) (x : Int32) (D : pD) (E : pDL) (h : D 1 0 1 = nI n) : Ta_append x D E = some (none, fXs D n (by4 x), E) := by
  rw [e_Ta_append, show Ta_append_3 x 24 D E = _ from X_byte (s := 24) (by omega) x D E h (by omega), show nI 24 + -8 = nI 16 by decide, X_byte (s := 16) (n := n + 1) (by omega) x _ E (bXs_1 _ _ _) (by omega), show nI 16 + -8 = nI 8 by decide, X_byte (s := 8) (n := n + 2) (by omega) x _ E (bXs_1 _ _ _) (by omega), show nI 8 + -8 = nI 0 by decide, X_byte (s := 0) (n := n + 3) (by omega) x _ E (bXs_1 _ _ _) (by omega), e_Ta_append_3, if_pos (by decide)]
  rfl
theorem fXs_1 : ∀ (l : List Int32) (D : pD) (n : Nat), D 1 0 1 = nI n → fXs D n l 1 0 1 = nI (n + l.length)
  | [], _, _, h => h
  | b :: l, D, n, h => by
    rw [fXs, fXs_1 l _ _ (bXs_1 D n b), List.length_cons, show n + 1 + l.length = n + (l.length + 1) by omega]
theorem fMs_1 : ∀ (l : List Int32) (D : pD) (n : Nat), D 100 0 1 = nI n → fMs D n l 100 0 1 = nI (n + l.length)
  | [], _, _, h => h
  | b :: l, D, n, h => by
    rw [fMs, fMs_1 l _ _ (bMs_1 D n b), List.length_cons, show n + 1 + l.length = n + (l.length + 1) by omega]
theorem M_byte {s n : Nat} (hn : n < 1200) (x1 x2 x3 x4 x5 i x : Int32) (D : pD) (E : pDL) (h : D 100 0 1 = nI n) (hs : s < 32) : Mo_feed_73 x1 x2 x3 x4 x5 i x (nI s) D E = Mo_feed_73 x1 x2 x3 x4 x5 i x (nI s + -8) (bMs D n (bv x s)) E := by
  rw [e_Mo_feed_73]
  simp (disch := omega) only [sC, sN, sN0, sLL, sTT, sEE, sM1, sF, sGt, sLe, sLt, sNe, or_false, or_true, false_or, true_or, or_self, if_true, if_false, not_true_eq_false, not_false_eq_true, B1s, B0s, B2s, h, ca1]
  rfl
theorem M_app {n : Nat} (hn : n ≤ 1196) (x1 x2 x3 x4 x5 i x : Int32) (D : pD) (E : pDL) (h : D 100 0 1 = nI n) : Mo_feed_73 x1 x2 x3 x4 x5 i x 24 D E = Mo_feed_19 x1 x2 x3 x4 x5 (i + 1) (fMs D n (by4 x)) E := by
  rw [show Mo_feed_73 x1 x2 x3 x4 x5 i x 24 D E = _ from M_byte (s := 24) (by omega) x1 x2 x3 x4 x5 i x D E h (by omega), show nI 24 + -8 = nI 16 by decide, M_byte (s := 16) (n := n + 1) (by omega) x1 x2 x3 x4 x5 i x _ E (bMs_1 _ _ _) (by omega), show nI 16 + -8 = nI 8 by decide, M_byte (s := 8) (n := n + 2) (by omega) x1 x2 x3 x4 x5 i x _ E (bMs_1 _ _ _) (by omega), show nI 8 + -8 = nI 0 by decide, M_byte (s := 0) (n := n + 3) (by omega) x1 x2 x3 x4 x5 i x _ E (bMs_1 _ _ _) (by omega), e_Mo_feed_73, if_pos (by decide)]
  rfl
def tp (n : Nat) (D : pD) : Prop := D 1 0 1 = nI n ∧ D 100 0 1 = nI n ∧ ∀ i, i < n → D 101 0 i = D 2 0 i ∧ (D 2 0 i).toInt8.toInt32 = D 2 0 i
theorem tp_step {n : Nat} {D : pD} (h : tp n D) {b : Int32} (hb : b.toInt8.toInt32 = b) : tp (n + 1) (bMs (bXs D n b) n b) := by
  refine ⟨?_, bMs_1 _ _ _, fun i hi => ?_⟩
  · unfold bMs
    rw [dsN (by decide), dsN (by decide), bXs_1]
  · have e1 : bMs (bXs D n b) n b 101 0 i = if i = n then b else D 101 0 i := by
      unfold bMs bXs
      simp (disch := decide) only [dsN, dsA]
    have e2 : bMs (bXs D n b) n b 2 0 i = if i = n then b else D 2 0 i := by
      unfold bMs bXs
      simp (disch := decide) only [dsN, dsA]
    rw [e1, e2]
    by_cases c : i = n
    · rw [if_pos c, if_pos c]
      exact ⟨rfl, hb⟩
    · rw [if_neg c, if_neg c]
      exact h.2.2 i (by omega)
theorem tp_all : ∀ (l : List Int32) (D : pD) (n : Nat), tp n D → (∀ b ∈ l, b.toInt8.toInt32 = b) → tp (n + l.length) (fBs D n l)
  | [], _, _, h, _ => h
  | b :: l, D, n, h, hl => by
    rw [fBs, List.length_cons, show n + (l.length + 1) = n + 1 + l.length by omega]
    exact tp_all l _ _ (tp_step h (hl b List.mem_cons_self)) (fun c hc => hl c (List.mem_cons_of_mem _ hc))
theorem fBs_ko : ∀ (l : List Int32) (D : pD) (n : Nat), Ko [1, 2, 100, 101] D (fBs D n l) ∧ ∀ i, i ≠ 1 → fBs D n l 100 0 i = D 100 0 i
  | [], _, _ => ⟨Ko.rf, fun _ _ => rfl⟩
  | b :: l, D, n => by
    obtain ⟨h1, h2⟩ := fBs_ko l (bMs (bXs D n b) n b) (n + 1)
    have k1 : Ko [1, 2, 100, 101] D (bMs (bXs D n b) n b) := (((Ko.rf.set (by decide) _ _ _).set (by decide) _ _ _).set (by decide) _ _ _).set (by decide) _ _ _
    rw [fBs]
    refine ⟨k1.tr h1, fun i hi => ?_⟩
    rw [h2 i hi]
    unfold bMs bXs
    simp (disch := decide) only [dsN, dsA, hi, if_false]
theorem i8i (x : Int32) : x.toInt8.toInt32.toInt8.toInt32.toInt8.toInt32 = x.toInt8.toInt32.toInt8.toInt32 := by
  rw [Int8.toInt8_toInt32, Int8.toInt8_toInt32]
theorem by4_i (x : Int32) : ∀ b ∈ by4 x, b.toInt8.toInt32 = b := by
  intro b hb
  unfold by4 at hb
  simp only [List.mem_cons, List.not_mem_nil, or_false] at hb
  rcases hb with rfl | rfl | rfl | rfl <;> exact i8i _
/-- feed -/
theorem L_feed (x1 x2 x3 x4 x5 : Int32) (D : pD) (E : pDL) (h : Inv D) : Same D E (Hb_feed x1 x2 x3 x4 x5) (Mo_feed x1 x2 x3 x4 x5) := by
  have hh := h
  obtain ⟨cN, cW, cP, cT, cH, hT, hF, hB, hN, hK, hG, hY, hL⟩ := h
  obtain ⟨⟨⟨n1, n2, n3, n4, n5⟩, ⟨a1, a2, a3, a4, a5⟩, ⟨b1, b2, b3, b4, b5⟩⟩, hS, hW, hGS, r1, r2, r3, r4, r5, r6⟩ := id hB
  obtain ⟨n, hn, t1, t2, t3, t25⟩ := id hT
  by_cases hf : n ≤ 1180
  · have l1 : ∀ x, (by4 x).length = 4 := fun _ => rfl
    have hx : Hb_feed x1 x2 x3 x4 x5 D E = some (some (.inl (nI (n + 20))), fXs D n (by4 x1 ++ (by4 x2 ++ (by4 x3 ++ (by4 x4 ++ by4 x5)))), E) := by
      have y1 := fXs_1 (by4 x1) D n t1
      have y2 := fXs_1 (by4 x2) (fXs D n (by4 x1)) (n + 4) y1
      have y3 := fXs_1 (by4 x3) (fXs (fXs D n (by4 x1)) (n + 4) (by4 x2)) (n + 8) y2
      have y4 := fXs_1 (by4 x4) (fXs (fXs (fXs D n (by4 x1)) (n + 4) (by4 x2)) (n + 8) (by4 x3)) (n + 12) y3
      have y5 := fXs_1 (by4 x5) (fXs (fXs (fXs (fXs D n (by4 x1)) (n + 4) (by4 x2)) (n + 8) (by4 x3)) (n + 12) (by4 x4)) (n + 16) y4
      rw [fXs_app, fXs_app, fXs_app, fXs_app, l1, l1, l1, l1]
      rw [e_Hb_feed, e_Ta_hasRoom, t1, if_neg (nnl 1180 hf (by omega)), B1s, if_neg (by decide), X_app (by omega) x1 D E t1, B0s, X_app (n := n + 4) (by omega) x2 _ E y1, B0s, X_app (n := n + 8) (by omega) x3 _ E y2, B0s, X_app (n := n + 12) (by omega) x4 _ E y3, B0s, X_app (n := n + 16) (by omega) x5 _ E y4, B0s, y5]
      rfl
    have hm : Mo_feed x1 x2 x3 x4 x5 D E = some (some (.inl (nI (n + 20))), fMs D n (by4 x1 ++ (by4 x2 ++ (by4 x3 ++ (by4 x4 ++ by4 x5)))), E) := by
      have y1 := fMs_1 (by4 x1) D n t2
      have y2 := fMs_1 (by4 x2) (fMs D n (by4 x1)) (n + 4) y1
      have y3 := fMs_1 (by4 x3) (fMs (fMs D n (by4 x1)) (n + 4) (by4 x2)) (n + 8) y2
      have y4 := fMs_1 (by4 x4) (fMs (fMs (fMs D n (by4 x1)) (n + 4) (by4 x2)) (n + 8) (by4 x3)) (n + 12) y3
      have y5 := fMs_1 (by4 x5) (fMs (fMs (fMs (fMs D n (by4 x1)) (n + 4) (by4 x2)) (n + 8) (by4 x3)) (n + 12) (by4 x4)) (n + 16) y4
      rw [fMs_app, fMs_app, fMs_app, fMs_app, l1, l1, l1, l1]
      rw [e_Mo_feed, t2, if_pos (by rw [ca20]; exact nnl' 1200 (by omega) (by omega)), e_Mo_feed_19, if_neg (by decide), if_pos rfl, M_app (by omega) x1 x2 x3 x4 x5 0 x1 D E t2]
      rw [e_Mo_feed_19, if_neg (by decide), if_neg (by decide), if_pos (by decide), M_app (n := n + 4) (by omega) x1 x2 x3 x4 x5 _ x2 _ E y1]
      rw [e_Mo_feed_19, if_neg (by decide), if_neg (by decide), if_neg (by decide), if_pos (by decide), M_app (n := n + 8) (by omega) x1 x2 x3 x4 x5 _ x3 _ E y2]
      rw [e_Mo_feed_19, if_neg (by decide), if_neg (by decide), if_neg (by decide), if_neg (by decide), if_pos (by decide), M_app (n := n + 12) (by omega) x1 x2 x3 x4 x5 _ x4 _ E y3]
      rw [e_Mo_feed_19, if_neg (by decide), if_neg (by decide), if_neg (by decide), if_neg (by decide), if_neg (by decide), M_app (n := n + 16) (by omega) x1 x2 x3 x4 x5 _ x5 _ E y4]
      rw [e_Mo_feed_19, if_pos (by decide), y5]
      rfl
    refine Bo.of ⟨_, _, _, _, by repeat first | exact okL_nil | refine okL_n ?_ | refine okL_i ?_ | refine okL_r (by decide) ?_, fun _ _ => rfl⟩ ⟨_, _, _, _, by repeat first | exact okL_nil | refine okL_n ?_ | refine okL_i ?_ | refine okL_r (by decide) ?_, fun _ _ => rfl⟩ hx hm ?_
    rw [fBs_cmb, cmb_self]
    have hall : ∀ b ∈ by4 x1 ++ (by4 x2 ++ (by4 x3 ++ (by4 x4 ++ by4 x5))), b.toInt8.toInt32 = b := by
      intro b hb
      simp only [List.mem_append] at hb
      rcases hb with q | q | q | q | q <;> exact by4_i _ b q
    have ht := tp_all _ D n ⟨t1, t2, t3⟩ hall
    obtain ⟨k1, k2⟩ := fBs_ko (by4 x1 ++ (by4 x2 ++ (by4 x3 ++ (by4 x4 ++ by4 x5)))) D n
    exact ⟨cN, cW, cP, cT, cH, ⟨_, by show n + 20 ≤ 1200; omega, ht.1, ht.2.1, ht.2.2, fun p hp => by rw [k1.c (by decide)]; exact t25 p hp⟩, hF.fr (k1.c (by decide) _) (k1.c (by decide) _) (k2 _ (by decide)) (k2 _ (by decide)), hB.ko k1 (by decide), hN.ko k1 (by decide), hK.ko k1 (by decide), hG.ko k1 (by decide), hY.fr (k1.at (by decide)) (k1.c (by decide) _) (k2 _ (by decide)), hL.fr (k1.at (by decide)) (k1.c (by decide) _) (k1.c (by decide) _) (k1.c (by decide) _) (k2 _ (by decide)) (k2 _ (by decide)) (k2 _ (by decide))⟩
  · exact Same.ro (v := -3) hh (by rw [e_Hb_feed, e_Ta_hasRoom, t1, if_pos (show (1180 : Int32) < nI n from (nI_lt (show 1180 < n by omega) (by omega) : nI 1180 < nI n)), B1s, if_pos rfl]) (by rw [e_Mo_feed, t2, if_neg (by rw [ca20]; exact nle_of' 1200 (by omega) (by omega))])

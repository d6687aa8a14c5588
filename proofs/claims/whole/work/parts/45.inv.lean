/-! RULES FOR THE PURE PART: numbers, what is left alone, and the relation of class and reference -/
theorem sC {k : Nat} (h : k < 2147483648) : (nI k).toNatClampNeg = k := iC h
theorem sN {k : Nat} (h : k < 2147483648) : (nI k < 0) = False := eq_false (iN h)
theorem sN0 {k : Nat} (h : k < 2147483648) : (0 ≤ nI k) = True := eq_true (nI_pos' h)
theorem sLL {a b : Nat} (ha : a < 2147483648) (hb : b < 2147483648) : (nI a ≤ nI b) = (a ≤ b) := propext (iL ha hb)
theorem sTT {a b : Nat} (ha : a < 2147483648) (hb : b < 2147483648) : (nI a < nI b) = (a < b) := propext (iT ha hb)
theorem sEE {a b : Nat} (ha : a < 2147483648) (hb : b < 2147483648) : (nI a = nI b) = (a = b) := propext (iE ha hb)
theorem cl1 {k : Nat} (h : k < 2147483648) : ((1 : Int32) ≤ nI k) = (1 ≤ k) := propext (iL (a := 1) (Nat.le_of_ble_eq_true rfl) h)
theorem cn1 {k : Nat} (h : k < 2147483648) : (nI k ≤ (1 : Int32)) = (k ≤ 1) := propext (iL (b := 1) h (Nat.le_of_ble_eq_true rfl))
theorem ct1 {k : Nat} (h : k < 2147483648) : ((1 : Int32) < nI k) = (1 < k) := propext (iT (a := 1) (Nat.le_of_ble_eq_true rfl) h)
theorem cu1 {k : Nat} (h : k < 2147483648) : (nI k < (1 : Int32)) = (k < 1) := propext (iT (b := 1) h (Nat.le_of_ble_eq_true rfl))
theorem ce1 {k : Nat} (h : k < 2147483648) : (nI k = (1 : Int32)) = (k = 1) := propext (iE (b := 1) h (Nat.le_of_ble_eq_true rfl))
theorem cf1 {k : Nat} (h : k < 2147483648) : ((1 : Int32) = nI k) = (1 = k) := propext (iE (a := 1) (Nat.le_of_ble_eq_true rfl) h)
theorem cs1 {k : Nat} (h : 1 ≤ k) : nI k - (1 : Int32) = nI (k - 1) := pk_sub h
theorem ca1 {k : Nat} : nI k + (1 : Int32) = nI (k + 1) := nI_add k 1
theorem cb1 {k : Nat} : (1 : Int32) + nI k = nI (1 + k) := nI_add 1 k
theorem cl2 {k : Nat} (h : k < 2147483648) : ((2 : Int32) ≤ nI k) = (2 ≤ k) := propext (iL (a := 2) (Nat.le_of_ble_eq_true rfl) h)
theorem cn2 {k : Nat} (h : k < 2147483648) : (nI k ≤ (2 : Int32)) = (k ≤ 2) := propext (iL (b := 2) h (Nat.le_of_ble_eq_true rfl))
theorem ct2 {k : Nat} (h : k < 2147483648) : ((2 : Int32) < nI k) = (2 < k) := propext (iT (a := 2) (Nat.le_of_ble_eq_true rfl) h)
theorem cu2 {k : Nat} (h : k < 2147483648) : (nI k < (2 : Int32)) = (k < 2) := propext (iT (b := 2) h (Nat.le_of_ble_eq_true rfl))
theorem ce2 {k : Nat} (h : k < 2147483648) : (nI k = (2 : Int32)) = (k = 2) := propext (iE (b := 2) h (Nat.le_of_ble_eq_true rfl))
theorem cf2 {k : Nat} (h : k < 2147483648) : ((2 : Int32) = nI k) = (2 = k) := propext (iE (a := 2) (Nat.le_of_ble_eq_true rfl) h)
theorem cs2 {k : Nat} (h : 2 ≤ k) : nI k - (2 : Int32) = nI (k - 2) := pk_sub h
theorem ca2 {k : Nat} : nI k + (2 : Int32) = nI (k + 2) := nI_add k 2
theorem cb2 {k : Nat} : (2 : Int32) + nI k = nI (2 + k) := nI_add 2 k
theorem cl3 {k : Nat} (h : k < 2147483648) : ((3 : Int32) ≤ nI k) = (3 ≤ k) := propext (iL (a := 3) (Nat.le_of_ble_eq_true rfl) h)
theorem cn3 {k : Nat} (h : k < 2147483648) : (nI k ≤ (3 : Int32)) = (k ≤ 3) := propext (iL (b := 3) h (Nat.le_of_ble_eq_true rfl))
theorem ct3 {k : Nat} (h : k < 2147483648) : ((3 : Int32) < nI k) = (3 < k) := propext (iT (a := 3) (Nat.le_of_ble_eq_true rfl) h)
theorem cu3 {k : Nat} (h : k < 2147483648) : (nI k < (3 : Int32)) = (k < 3) := propext (iT (b := 3) h (Nat.le_of_ble_eq_true rfl))
theorem ce3 {k : Nat} (h : k < 2147483648) : (nI k = (3 : Int32)) = (k = 3) := propext (iE (b := 3) h (Nat.le_of_ble_eq_true rfl))
theorem cf3 {k : Nat} (h : k < 2147483648) : ((3 : Int32) = nI k) = (3 = k) := propext (iE (a := 3) (Nat.le_of_ble_eq_true rfl) h)
theorem cs3 {k : Nat} (h : 3 ≤ k) : nI k - (3 : Int32) = nI (k - 3) := pk_sub h
theorem ca3 {k : Nat} : nI k + (3 : Int32) = nI (k + 3) := nI_add k 3
theorem cb3 {k : Nat} : (3 : Int32) + nI k = nI (3 + k) := nI_add 3 k
theorem cl4 {k : Nat} (h : k < 2147483648) : ((4 : Int32) ≤ nI k) = (4 ≤ k) := propext (iL (a := 4) (Nat.le_of_ble_eq_true rfl) h)
theorem cn4 {k : Nat} (h : k < 2147483648) : (nI k ≤ (4 : Int32)) = (k ≤ 4) := propext (iL (b := 4) h (Nat.le_of_ble_eq_true rfl))
theorem ct4 {k : Nat} (h : k < 2147483648) : ((4 : Int32) < nI k) = (4 < k) := propext (iT (a := 4) (Nat.le_of_ble_eq_true rfl) h)
theorem cu4 {k : Nat} (h : k < 2147483648) : (nI k < (4 : Int32)) = (k < 4) := propext (iT (b := 4) h (Nat.le_of_ble_eq_true rfl))
theorem ce4 {k : Nat} (h : k < 2147483648) : (nI k = (4 : Int32)) = (k = 4) := propext (iE (b := 4) h (Nat.le_of_ble_eq_true rfl))
theorem cf4 {k : Nat} (h : k < 2147483648) : ((4 : Int32) = nI k) = (4 = k) := propext (iE (a := 4) (Nat.le_of_ble_eq_true rfl) h)
theorem cs4 {k : Nat} (h : 4 ≤ k) : nI k - (4 : Int32) = nI (k - 4) := pk_sub h
theorem ca4 {k : Nat} : nI k + (4 : Int32) = nI (k + 4) := nI_add k 4
theorem cb4 {k : Nat} : (4 : Int32) + nI k = nI (4 + k) := nI_add 4 k
theorem cl5 {k : Nat} (h : k < 2147483648) : ((5 : Int32) ≤ nI k) = (5 ≤ k) := propext (iL (a := 5) (Nat.le_of_ble_eq_true rfl) h)
theorem cn5 {k : Nat} (h : k < 2147483648) : (nI k ≤ (5 : Int32)) = (k ≤ 5) := propext (iL (b := 5) h (Nat.le_of_ble_eq_true rfl))
theorem ct5 {k : Nat} (h : k < 2147483648) : ((5 : Int32) < nI k) = (5 < k) := propext (iT (a := 5) (Nat.le_of_ble_eq_true rfl) h)
theorem cu5 {k : Nat} (h : k < 2147483648) : (nI k < (5 : Int32)) = (k < 5) := propext (iT (b := 5) h (Nat.le_of_ble_eq_true rfl))
theorem ce5 {k : Nat} (h : k < 2147483648) : (nI k = (5 : Int32)) = (k = 5) := propext (iE (b := 5) h (Nat.le_of_ble_eq_true rfl))
theorem cf5 {k : Nat} (h : k < 2147483648) : ((5 : Int32) = nI k) = (5 = k) := propext (iE (a := 5) (Nat.le_of_ble_eq_true rfl) h)
theorem cs5 {k : Nat} (h : 5 ≤ k) : nI k - (5 : Int32) = nI (k - 5) := pk_sub h
theorem ca5 {k : Nat} : nI k + (5 : Int32) = nI (k + 5) := nI_add k 5
theorem cb5 {k : Nat} : (5 : Int32) + nI k = nI (5 + k) := nI_add 5 k
theorem cl6 {k : Nat} (h : k < 2147483648) : ((6 : Int32) ≤ nI k) = (6 ≤ k) := propext (iL (a := 6) (Nat.le_of_ble_eq_true rfl) h)
theorem cn6 {k : Nat} (h : k < 2147483648) : (nI k ≤ (6 : Int32)) = (k ≤ 6) := propext (iL (b := 6) h (Nat.le_of_ble_eq_true rfl))
theorem ct6 {k : Nat} (h : k < 2147483648) : ((6 : Int32) < nI k) = (6 < k) := propext (iT (a := 6) (Nat.le_of_ble_eq_true rfl) h)
theorem cu6 {k : Nat} (h : k < 2147483648) : (nI k < (6 : Int32)) = (k < 6) := propext (iT (b := 6) h (Nat.le_of_ble_eq_true rfl))
theorem ce6 {k : Nat} (h : k < 2147483648) : (nI k = (6 : Int32)) = (k = 6) := propext (iE (b := 6) h (Nat.le_of_ble_eq_true rfl))
theorem cf6 {k : Nat} (h : k < 2147483648) : ((6 : Int32) = nI k) = (6 = k) := propext (iE (a := 6) (Nat.le_of_ble_eq_true rfl) h)
theorem cs6 {k : Nat} (h : 6 ≤ k) : nI k - (6 : Int32) = nI (k - 6) := pk_sub h
theorem ca6 {k : Nat} : nI k + (6 : Int32) = nI (k + 6) := nI_add k 6
theorem cb6 {k : Nat} : (6 : Int32) + nI k = nI (6 + k) := nI_add 6 k
theorem cl7 {k : Nat} (h : k < 2147483648) : ((7 : Int32) ≤ nI k) = (7 ≤ k) := propext (iL (a := 7) (Nat.le_of_ble_eq_true rfl) h)
theorem cn7 {k : Nat} (h : k < 2147483648) : (nI k ≤ (7 : Int32)) = (k ≤ 7) := propext (iL (b := 7) h (Nat.le_of_ble_eq_true rfl))
theorem ct7 {k : Nat} (h : k < 2147483648) : ((7 : Int32) < nI k) = (7 < k) := propext (iT (a := 7) (Nat.le_of_ble_eq_true rfl) h)
theorem cu7 {k : Nat} (h : k < 2147483648) : (nI k < (7 : Int32)) = (k < 7) := propext (iT (b := 7) h (Nat.le_of_ble_eq_true rfl))
theorem ce7 {k : Nat} (h : k < 2147483648) : (nI k = (7 : Int32)) = (k = 7) := propext (iE (b := 7) h (Nat.le_of_ble_eq_true rfl))
theorem cf7 {k : Nat} (h : k < 2147483648) : ((7 : Int32) = nI k) = (7 = k) := propext (iE (a := 7) (Nat.le_of_ble_eq_true rfl) h)
theorem cs7 {k : Nat} (h : 7 ≤ k) : nI k - (7 : Int32) = nI (k - 7) := pk_sub h
theorem ca7 {k : Nat} : nI k + (7 : Int32) = nI (k + 7) := nI_add k 7
theorem cb7 {k : Nat} : (7 : Int32) + nI k = nI (7 + k) := nI_add 7 k
theorem cl8 {k : Nat} (h : k < 2147483648) : ((8 : Int32) ≤ nI k) = (8 ≤ k) := propext (iL (a := 8) (Nat.le_of_ble_eq_true rfl) h)
theorem cn8 {k : Nat} (h : k < 2147483648) : (nI k ≤ (8 : Int32)) = (k ≤ 8) := propext (iL (b := 8) h (Nat.le_of_ble_eq_true rfl))
theorem ct8 {k : Nat} (h : k < 2147483648) : ((8 : Int32) < nI k) = (8 < k) := propext (iT (a := 8) (Nat.le_of_ble_eq_true rfl) h)
theorem cu8 {k : Nat} (h : k < 2147483648) : (nI k < (8 : Int32)) = (k < 8) := propext (iT (b := 8) h (Nat.le_of_ble_eq_true rfl))
theorem ce8 {k : Nat} (h : k < 2147483648) : (nI k = (8 : Int32)) = (k = 8) := propext (iE (b := 8) h (Nat.le_of_ble_eq_true rfl))
theorem cf8 {k : Nat} (h : k < 2147483648) : ((8 : Int32) = nI k) = (8 = k) := propext (iE (a := 8) (Nat.le_of_ble_eq_true rfl) h)
theorem cs8 {k : Nat} (h : 8 ≤ k) : nI k - (8 : Int32) = nI (k - 8) := pk_sub h
theorem ca8 {k : Nat} : nI k + (8 : Int32) = nI (k + 8) := nI_add k 8
theorem cb8 {k : Nat} : (8 : Int32) + nI k = nI (8 + k) := nI_add 8 k
theorem cl9 {k : Nat} (h : k < 2147483648) : ((9 : Int32) ≤ nI k) = (9 ≤ k) := propext (iL (a := 9) (Nat.le_of_ble_eq_true rfl) h)
theorem cn9 {k : Nat} (h : k < 2147483648) : (nI k ≤ (9 : Int32)) = (k ≤ 9) := propext (iL (b := 9) h (Nat.le_of_ble_eq_true rfl))
theorem ct9 {k : Nat} (h : k < 2147483648) : ((9 : Int32) < nI k) = (9 < k) := propext (iT (a := 9) (Nat.le_of_ble_eq_true rfl) h)
theorem cu9 {k : Nat} (h : k < 2147483648) : (nI k < (9 : Int32)) = (k < 9) := propext (iT (b := 9) h (Nat.le_of_ble_eq_true rfl))
theorem ce9 {k : Nat} (h : k < 2147483648) : (nI k = (9 : Int32)) = (k = 9) := propext (iE (b := 9) h (Nat.le_of_ble_eq_true rfl))
theorem cf9 {k : Nat} (h : k < 2147483648) : ((9 : Int32) = nI k) = (9 = k) := propext (iE (a := 9) (Nat.le_of_ble_eq_true rfl) h)
theorem cs9 {k : Nat} (h : 9 ≤ k) : nI k - (9 : Int32) = nI (k - 9) := pk_sub h
theorem ca9 {k : Nat} : nI k + (9 : Int32) = nI (k + 9) := nI_add k 9
theorem cb9 {k : Nat} : (9 : Int32) + nI k = nI (9 + k) := nI_add 9 k
theorem cl10 {k : Nat} (h : k < 2147483648) : ((10 : Int32) ≤ nI k) = (10 ≤ k) := propext (iL (a := 10) (Nat.le_of_ble_eq_true rfl) h)
theorem cn10 {k : Nat} (h : k < 2147483648) : (nI k ≤ (10 : Int32)) = (k ≤ 10) := propext (iL (b := 10) h (Nat.le_of_ble_eq_true rfl))
theorem ct10 {k : Nat} (h : k < 2147483648) : ((10 : Int32) < nI k) = (10 < k) := propext (iT (a := 10) (Nat.le_of_ble_eq_true rfl) h)
theorem cu10 {k : Nat} (h : k < 2147483648) : (nI k < (10 : Int32)) = (k < 10) := propext (iT (b := 10) h (Nat.le_of_ble_eq_true rfl))
theorem ce10 {k : Nat} (h : k < 2147483648) : (nI k = (10 : Int32)) = (k = 10) := propext (iE (b := 10) h (Nat.le_of_ble_eq_true rfl))
theorem cf10 {k : Nat} (h : k < 2147483648) : ((10 : Int32) = nI k) = (10 = k) := propext (iE (a := 10) (Nat.le_of_ble_eq_true rfl) h)
theorem cs10 {k : Nat} (h : 10 ≤ k) : nI k - (10 : Int32) = nI (k - 10) := pk_sub h
theorem ca10 {k : Nat} : nI k + (10 : Int32) = nI (k + 10) := nI_add k 10
theorem cb10 {k : Nat} : (10 : Int32) + nI k = nI (10 + k) := nI_add 10 k
theorem cl12 {k : Nat} (h : k < 2147483648) : ((12 : Int32) ≤ nI k) = (12 ≤ k) := propext (iL (a := 12) (Nat.le_of_ble_eq_true rfl) h)
theorem cn12 {k : Nat} (h : k < 2147483648) : (nI k ≤ (12 : Int32)) = (k ≤ 12) := propext (iL (b := 12) h (Nat.le_of_ble_eq_true rfl))
theorem ct12 {k : Nat} (h : k < 2147483648) : ((12 : Int32) < nI k) = (12 < k) := propext (iT (a := 12) (Nat.le_of_ble_eq_true rfl) h)
theorem cu12 {k : Nat} (h : k < 2147483648) : (nI k < (12 : Int32)) = (k < 12) := propext (iT (b := 12) h (Nat.le_of_ble_eq_true rfl))
theorem ce12 {k : Nat} (h : k < 2147483648) : (nI k = (12 : Int32)) = (k = 12) := propext (iE (b := 12) h (Nat.le_of_ble_eq_true rfl))
theorem cf12 {k : Nat} (h : k < 2147483648) : ((12 : Int32) = nI k) = (12 = k) := propext (iE (a := 12) (Nat.le_of_ble_eq_true rfl) h)
theorem cs12 {k : Nat} (h : 12 ≤ k) : nI k - (12 : Int32) = nI (k - 12) := pk_sub h
theorem ca12 {k : Nat} : nI k + (12 : Int32) = nI (k + 12) := nI_add k 12
theorem cb12 {k : Nat} : (12 : Int32) + nI k = nI (12 + k) := nI_add 12 k
theorem cl20 {k : Nat} (h : k < 2147483648) : ((20 : Int32) ≤ nI k) = (20 ≤ k) := propext (iL (a := 20) (Nat.le_of_ble_eq_true rfl) h)
theorem cn20 {k : Nat} (h : k < 2147483648) : (nI k ≤ (20 : Int32)) = (k ≤ 20) := propext (iL (b := 20) h (Nat.le_of_ble_eq_true rfl))
theorem ct20 {k : Nat} (h : k < 2147483648) : ((20 : Int32) < nI k) = (20 < k) := propext (iT (a := 20) (Nat.le_of_ble_eq_true rfl) h)
theorem cu20 {k : Nat} (h : k < 2147483648) : (nI k < (20 : Int32)) = (k < 20) := propext (iT (b := 20) h (Nat.le_of_ble_eq_true rfl))
theorem ce20 {k : Nat} (h : k < 2147483648) : (nI k = (20 : Int32)) = (k = 20) := propext (iE (b := 20) h (Nat.le_of_ble_eq_true rfl))
theorem cf20 {k : Nat} (h : k < 2147483648) : ((20 : Int32) = nI k) = (20 = k) := propext (iE (a := 20) (Nat.le_of_ble_eq_true rfl) h)
theorem cs20 {k : Nat} (h : 20 ≤ k) : nI k - (20 : Int32) = nI (k - 20) := pk_sub h
theorem ca20 {k : Nat} : nI k + (20 : Int32) = nI (k + 20) := nI_add k 20
theorem cb20 {k : Nat} : (20 : Int32) + nI k = nI (20 + k) := nI_add 20 k
theorem cl23 {k : Nat} (h : k < 2147483648) : ((23 : Int32) ≤ nI k) = (23 ≤ k) := propext (iL (a := 23) (Nat.le_of_ble_eq_true rfl) h)
theorem cn23 {k : Nat} (h : k < 2147483648) : (nI k ≤ (23 : Int32)) = (k ≤ 23) := propext (iL (b := 23) h (Nat.le_of_ble_eq_true rfl))
theorem ct23 {k : Nat} (h : k < 2147483648) : ((23 : Int32) < nI k) = (23 < k) := propext (iT (a := 23) (Nat.le_of_ble_eq_true rfl) h)
theorem cu23 {k : Nat} (h : k < 2147483648) : (nI k < (23 : Int32)) = (k < 23) := propext (iT (b := 23) h (Nat.le_of_ble_eq_true rfl))
theorem ce23 {k : Nat} (h : k < 2147483648) : (nI k = (23 : Int32)) = (k = 23) := propext (iE (b := 23) h (Nat.le_of_ble_eq_true rfl))
theorem cf23 {k : Nat} (h : k < 2147483648) : ((23 : Int32) = nI k) = (23 = k) := propext (iE (a := 23) (Nat.le_of_ble_eq_true rfl) h)
theorem cs23 {k : Nat} (h : 23 ≤ k) : nI k - (23 : Int32) = nI (k - 23) := pk_sub h
theorem ca23 {k : Nat} : nI k + (23 : Int32) = nI (k + 23) := nI_add k 23
theorem cb23 {k : Nat} : (23 : Int32) + nI k = nI (23 + k) := nI_add 23 k
theorem cl24 {k : Nat} (h : k < 2147483648) : ((24 : Int32) ≤ nI k) = (24 ≤ k) := propext (iL (a := 24) (Nat.le_of_ble_eq_true rfl) h)
theorem cn24 {k : Nat} (h : k < 2147483648) : (nI k ≤ (24 : Int32)) = (k ≤ 24) := propext (iL (b := 24) h (Nat.le_of_ble_eq_true rfl))
theorem ct24 {k : Nat} (h : k < 2147483648) : ((24 : Int32) < nI k) = (24 < k) := propext (iT (a := 24) (Nat.le_of_ble_eq_true rfl) h)
theorem cu24 {k : Nat} (h : k < 2147483648) : (nI k < (24 : Int32)) = (k < 24) := propext (iT (b := 24) h (Nat.le_of_ble_eq_true rfl))
theorem ce24 {k : Nat} (h : k < 2147483648) : (nI k = (24 : Int32)) = (k = 24) := propext (iE (b := 24) h (Nat.le_of_ble_eq_true rfl))
theorem cf24 {k : Nat} (h : k < 2147483648) : ((24 : Int32) = nI k) = (24 = k) := propext (iE (a := 24) (Nat.le_of_ble_eq_true rfl) h)
theorem cs24 {k : Nat} (h : 24 ≤ k) : nI k - (24 : Int32) = nI (k - 24) := pk_sub h
theorem ca24 {k : Nat} : nI k + (24 : Int32) = nI (k + 24) := nI_add k 24
theorem cb24 {k : Nat} : (24 : Int32) + nI k = nI (24 + k) := nI_add 24 k
theorem cl30 {k : Nat} (h : k < 2147483648) : ((30 : Int32) ≤ nI k) = (30 ≤ k) := propext (iL (a := 30) (Nat.le_of_ble_eq_true rfl) h)
theorem cn30 {k : Nat} (h : k < 2147483648) : (nI k ≤ (30 : Int32)) = (k ≤ 30) := propext (iL (b := 30) h (Nat.le_of_ble_eq_true rfl))
theorem ct30 {k : Nat} (h : k < 2147483648) : ((30 : Int32) < nI k) = (30 < k) := propext (iT (a := 30) (Nat.le_of_ble_eq_true rfl) h)
theorem cu30 {k : Nat} (h : k < 2147483648) : (nI k < (30 : Int32)) = (k < 30) := propext (iT (b := 30) h (Nat.le_of_ble_eq_true rfl))
theorem ce30 {k : Nat} (h : k < 2147483648) : (nI k = (30 : Int32)) = (k = 30) := propext (iE (b := 30) h (Nat.le_of_ble_eq_true rfl))
theorem cf30 {k : Nat} (h : k < 2147483648) : ((30 : Int32) = nI k) = (30 = k) := propext (iE (a := 30) (Nat.le_of_ble_eq_true rfl) h)
theorem cs30 {k : Nat} (h : 30 ≤ k) : nI k - (30 : Int32) = nI (k - 30) := pk_sub h
theorem ca30 {k : Nat} : nI k + (30 : Int32) = nI (k + 30) := nI_add k 30
theorem cb30 {k : Nat} : (30 : Int32) + nI k = nI (30 + k) := nI_add 30 k
theorem cl32 {k : Nat} (h : k < 2147483648) : ((32 : Int32) ≤ nI k) = (32 ≤ k) := propext (iL (a := 32) (Nat.le_of_ble_eq_true rfl) h)
theorem cn32 {k : Nat} (h : k < 2147483648) : (nI k ≤ (32 : Int32)) = (k ≤ 32) := propext (iL (b := 32) h (Nat.le_of_ble_eq_true rfl))
theorem ct32 {k : Nat} (h : k < 2147483648) : ((32 : Int32) < nI k) = (32 < k) := propext (iT (a := 32) (Nat.le_of_ble_eq_true rfl) h)
theorem cu32 {k : Nat} (h : k < 2147483648) : (nI k < (32 : Int32)) = (k < 32) := propext (iT (b := 32) h (Nat.le_of_ble_eq_true rfl))
theorem ce32 {k : Nat} (h : k < 2147483648) : (nI k = (32 : Int32)) = (k = 32) := propext (iE (b := 32) h (Nat.le_of_ble_eq_true rfl))
theorem cf32 {k : Nat} (h : k < 2147483648) : ((32 : Int32) = nI k) = (32 = k) := propext (iE (a := 32) (Nat.le_of_ble_eq_true rfl) h)
theorem cs32 {k : Nat} (h : 32 ≤ k) : nI k - (32 : Int32) = nI (k - 32) := pk_sub h
theorem ca32 {k : Nat} : nI k + (32 : Int32) = nI (k + 32) := nI_add k 32
theorem cb32 {k : Nat} : (32 : Int32) + nI k = nI (32 + k) := nI_add 32 k
theorem cl40 {k : Nat} (h : k < 2147483648) : ((40 : Int32) ≤ nI k) = (40 ≤ k) := propext (iL (a := 40) (Nat.le_of_ble_eq_true rfl) h)
theorem cn40 {k : Nat} (h : k < 2147483648) : (nI k ≤ (40 : Int32)) = (k ≤ 40) := propext (iL (b := 40) h (Nat.le_of_ble_eq_true rfl))
theorem ct40 {k : Nat} (h : k < 2147483648) : ((40 : Int32) < nI k) = (40 < k) := propext (iT (a := 40) (Nat.le_of_ble_eq_true rfl) h)
theorem cu40 {k : Nat} (h : k < 2147483648) : (nI k < (40 : Int32)) = (k < 40) := propext (iT (b := 40) h (Nat.le_of_ble_eq_true rfl))
theorem ce40 {k : Nat} (h : k < 2147483648) : (nI k = (40 : Int32)) = (k = 40) := propext (iE (b := 40) h (Nat.le_of_ble_eq_true rfl))
theorem cf40 {k : Nat} (h : k < 2147483648) : ((40 : Int32) = nI k) = (40 = k) := propext (iE (a := 40) (Nat.le_of_ble_eq_true rfl) h)
theorem cs40 {k : Nat} (h : 40 ≤ k) : nI k - (40 : Int32) = nI (k - 40) := pk_sub h
theorem ca40 {k : Nat} : nI k + (40 : Int32) = nI (k + 40) := nI_add k 40
theorem cb40 {k : Nat} : (40 : Int32) + nI k = nI (40 + k) := nI_add 40 k
theorem cl43 {k : Nat} (h : k < 2147483648) : ((43 : Int32) ≤ nI k) = (43 ≤ k) := propext (iL (a := 43) (Nat.le_of_ble_eq_true rfl) h)
theorem cn43 {k : Nat} (h : k < 2147483648) : (nI k ≤ (43 : Int32)) = (k ≤ 43) := propext (iL (b := 43) h (Nat.le_of_ble_eq_true rfl))
theorem ct43 {k : Nat} (h : k < 2147483648) : ((43 : Int32) < nI k) = (43 < k) := propext (iT (a := 43) (Nat.le_of_ble_eq_true rfl) h)
theorem cu43 {k : Nat} (h : k < 2147483648) : (nI k < (43 : Int32)) = (k < 43) := propext (iT (b := 43) h (Nat.le_of_ble_eq_true rfl))
theorem ce43 {k : Nat} (h : k < 2147483648) : (nI k = (43 : Int32)) = (k = 43) := propext (iE (b := 43) h (Nat.le_of_ble_eq_true rfl))
theorem cf43 {k : Nat} (h : k < 2147483648) : ((43 : Int32) = nI k) = (43 = k) := propext (iE (a := 43) (Nat.le_of_ble_eq_true rfl) h)
theorem cs43 {k : Nat} (h : 43 ≤ k) : nI k - (43 : Int32) = nI (k - 43) := pk_sub h
theorem ca43 {k : Nat} : nI k + (43 : Int32) = nI (k + 43) := nI_add k 43
theorem cb43 {k : Nat} : (43 : Int32) + nI k = nI (43 + k) := nI_add 43 k
theorem cl44 {k : Nat} (h : k < 2147483648) : ((44 : Int32) ≤ nI k) = (44 ≤ k) := propext (iL (a := 44) (Nat.le_of_ble_eq_true rfl) h)
theorem cn44 {k : Nat} (h : k < 2147483648) : (nI k ≤ (44 : Int32)) = (k ≤ 44) := propext (iL (b := 44) h (Nat.le_of_ble_eq_true rfl))
theorem ct44 {k : Nat} (h : k < 2147483648) : ((44 : Int32) < nI k) = (44 < k) := propext (iT (a := 44) (Nat.le_of_ble_eq_true rfl) h)
theorem cu44 {k : Nat} (h : k < 2147483648) : (nI k < (44 : Int32)) = (k < 44) := propext (iT (b := 44) h (Nat.le_of_ble_eq_true rfl))
theorem ce44 {k : Nat} (h : k < 2147483648) : (nI k = (44 : Int32)) = (k = 44) := propext (iE (b := 44) h (Nat.le_of_ble_eq_true rfl))
theorem cf44 {k : Nat} (h : k < 2147483648) : ((44 : Int32) = nI k) = (44 = k) := propext (iE (a := 44) (Nat.le_of_ble_eq_true rfl) h)
theorem cs44 {k : Nat} (h : 44 ≤ k) : nI k - (44 : Int32) = nI (k - 44) := pk_sub h
theorem ca44 {k : Nat} : nI k + (44 : Int32) = nI (k + 44) := nI_add k 44
theorem cb44 {k : Nat} : (44 : Int32) + nI k = nI (44 + k) := nI_add 44 k
theorem cl99 {k : Nat} (h : k < 2147483648) : ((99 : Int32) ≤ nI k) = (99 ≤ k) := propext (iL (a := 99) (Nat.le_of_ble_eq_true rfl) h)
theorem cn99 {k : Nat} (h : k < 2147483648) : (nI k ≤ (99 : Int32)) = (k ≤ 99) := propext (iL (b := 99) h (Nat.le_of_ble_eq_true rfl))
theorem ct99 {k : Nat} (h : k < 2147483648) : ((99 : Int32) < nI k) = (99 < k) := propext (iT (a := 99) (Nat.le_of_ble_eq_true rfl) h)
theorem cu99 {k : Nat} (h : k < 2147483648) : (nI k < (99 : Int32)) = (k < 99) := propext (iT (b := 99) h (Nat.le_of_ble_eq_true rfl))
theorem ce99 {k : Nat} (h : k < 2147483648) : (nI k = (99 : Int32)) = (k = 99) := propext (iE (b := 99) h (Nat.le_of_ble_eq_true rfl))
theorem cf99 {k : Nat} (h : k < 2147483648) : ((99 : Int32) = nI k) = (99 = k) := propext (iE (a := 99) (Nat.le_of_ble_eq_true rfl) h)
theorem cs99 {k : Nat} (h : 99 ≤ k) : nI k - (99 : Int32) = nI (k - 99) := pk_sub h
theorem ca99 {k : Nat} : nI k + (99 : Int32) = nI (k + 99) := nI_add k 99
theorem cb99 {k : Nat} : (99 : Int32) + nI k = nI (99 + k) := nI_add 99 k
theorem cl100 {k : Nat} (h : k < 2147483648) : ((100 : Int32) ≤ nI k) = (100 ≤ k) := propext (iL (a := 100) (Nat.le_of_ble_eq_true rfl) h)
theorem cn100 {k : Nat} (h : k < 2147483648) : (nI k ≤ (100 : Int32)) = (k ≤ 100) := propext (iL (b := 100) h (Nat.le_of_ble_eq_true rfl))
theorem ct100 {k : Nat} (h : k < 2147483648) : ((100 : Int32) < nI k) = (100 < k) := propext (iT (a := 100) (Nat.le_of_ble_eq_true rfl) h)
theorem cu100 {k : Nat} (h : k < 2147483648) : (nI k < (100 : Int32)) = (k < 100) := propext (iT (b := 100) h (Nat.le_of_ble_eq_true rfl))
theorem ce100 {k : Nat} (h : k < 2147483648) : (nI k = (100 : Int32)) = (k = 100) := propext (iE (b := 100) h (Nat.le_of_ble_eq_true rfl))
theorem cf100 {k : Nat} (h : k < 2147483648) : ((100 : Int32) = nI k) = (100 = k) := propext (iE (a := 100) (Nat.le_of_ble_eq_true rfl) h)
theorem cs100 {k : Nat} (h : 100 ≤ k) : nI k - (100 : Int32) = nI (k - 100) := pk_sub h
theorem ca100 {k : Nat} : nI k + (100 : Int32) = nI (k + 100) := nI_add k 100
theorem cb100 {k : Nat} : (100 : Int32) + nI k = nI (100 + k) := nI_add 100 k
theorem cl300 {k : Nat} (h : k < 2147483648) : ((300 : Int32) ≤ nI k) = (300 ≤ k) := propext (iL (a := 300) (Nat.le_of_ble_eq_true rfl) h)
theorem cn300 {k : Nat} (h : k < 2147483648) : (nI k ≤ (300 : Int32)) = (k ≤ 300) := propext (iL (b := 300) h (Nat.le_of_ble_eq_true rfl))
theorem ct300 {k : Nat} (h : k < 2147483648) : ((300 : Int32) < nI k) = (300 < k) := propext (iT (a := 300) (Nat.le_of_ble_eq_true rfl) h)
theorem cu300 {k : Nat} (h : k < 2147483648) : (nI k < (300 : Int32)) = (k < 300) := propext (iT (b := 300) h (Nat.le_of_ble_eq_true rfl))
theorem ce300 {k : Nat} (h : k < 2147483648) : (nI k = (300 : Int32)) = (k = 300) := propext (iE (b := 300) h (Nat.le_of_ble_eq_true rfl))
theorem cf300 {k : Nat} (h : k < 2147483648) : ((300 : Int32) = nI k) = (300 = k) := propext (iE (a := 300) (Nat.le_of_ble_eq_true rfl) h)
theorem cs300 {k : Nat} (h : 300 ≤ k) : nI k - (300 : Int32) = nI (k - 300) := pk_sub h
theorem ca300 {k : Nat} : nI k + (300 : Int32) = nI (k + 300) := nI_add k 300
theorem cb300 {k : Nat} : (300 : Int32) + nI k = nI (300 + k) := nI_add 300 k
theorem cl999 {k : Nat} (h : k < 2147483648) : ((999 : Int32) ≤ nI k) = (999 ≤ k) := propext (iL (a := 999) (Nat.le_of_ble_eq_true rfl) h)
theorem cn999 {k : Nat} (h : k < 2147483648) : (nI k ≤ (999 : Int32)) = (k ≤ 999) := propext (iL (b := 999) h (Nat.le_of_ble_eq_true rfl))
theorem ct999 {k : Nat} (h : k < 2147483648) : ((999 : Int32) < nI k) = (999 < k) := propext (iT (a := 999) (Nat.le_of_ble_eq_true rfl) h)
theorem cu999 {k : Nat} (h : k < 2147483648) : (nI k < (999 : Int32)) = (k < 999) := propext (iT (b := 999) h (Nat.le_of_ble_eq_true rfl))
theorem ce999 {k : Nat} (h : k < 2147483648) : (nI k = (999 : Int32)) = (k = 999) := propext (iE (b := 999) h (Nat.le_of_ble_eq_true rfl))
theorem cf999 {k : Nat} (h : k < 2147483648) : ((999 : Int32) = nI k) = (999 = k) := propext (iE (a := 999) (Nat.le_of_ble_eq_true rfl) h)
theorem cs999 {k : Nat} (h : 999 ≤ k) : nI k - (999 : Int32) = nI (k - 999) := pk_sub h
theorem ca999 {k : Nat} : nI k + (999 : Int32) = nI (k + 999) := nI_add k 999
theorem cb999 {k : Nat} : (999 : Int32) + nI k = nI (999 + k) := nI_add 999 k
theorem cl1000 {k : Nat} (h : k < 2147483648) : ((1000 : Int32) ≤ nI k) = (1000 ≤ k) := propext (iL (a := 1000) (Nat.le_of_ble_eq_true rfl) h)
theorem cn1000 {k : Nat} (h : k < 2147483648) : (nI k ≤ (1000 : Int32)) = (k ≤ 1000) := propext (iL (b := 1000) h (Nat.le_of_ble_eq_true rfl))
theorem ct1000 {k : Nat} (h : k < 2147483648) : ((1000 : Int32) < nI k) = (1000 < k) := propext (iT (a := 1000) (Nat.le_of_ble_eq_true rfl) h)
theorem cu1000 {k : Nat} (h : k < 2147483648) : (nI k < (1000 : Int32)) = (k < 1000) := propext (iT (b := 1000) h (Nat.le_of_ble_eq_true rfl))
theorem ce1000 {k : Nat} (h : k < 2147483648) : (nI k = (1000 : Int32)) = (k = 1000) := propext (iE (b := 1000) h (Nat.le_of_ble_eq_true rfl))
theorem cf1000 {k : Nat} (h : k < 2147483648) : ((1000 : Int32) = nI k) = (1000 = k) := propext (iE (a := 1000) (Nat.le_of_ble_eq_true rfl) h)
theorem cs1000 {k : Nat} (h : 1000 ≤ k) : nI k - (1000 : Int32) = nI (k - 1000) := pk_sub h
theorem ca1000 {k : Nat} : nI k + (1000 : Int32) = nI (k + 1000) := nI_add k 1000
theorem cb1000 {k : Nat} : (1000 : Int32) + nI k = nI (1000 + k) := nI_add 1000 k
theorem cl1180 {k : Nat} (h : k < 2147483648) : ((1180 : Int32) ≤ nI k) = (1180 ≤ k) := propext (iL (a := 1180) (Nat.le_of_ble_eq_true rfl) h)
theorem cn1180 {k : Nat} (h : k < 2147483648) : (nI k ≤ (1180 : Int32)) = (k ≤ 1180) := propext (iL (b := 1180) h (Nat.le_of_ble_eq_true rfl))
theorem ct1180 {k : Nat} (h : k < 2147483648) : ((1180 : Int32) < nI k) = (1180 < k) := propext (iT (a := 1180) (Nat.le_of_ble_eq_true rfl) h)
theorem cu1180 {k : Nat} (h : k < 2147483648) : (nI k < (1180 : Int32)) = (k < 1180) := propext (iT (b := 1180) h (Nat.le_of_ble_eq_true rfl))
theorem ce1180 {k : Nat} (h : k < 2147483648) : (nI k = (1180 : Int32)) = (k = 1180) := propext (iE (b := 1180) h (Nat.le_of_ble_eq_true rfl))
theorem cf1180 {k : Nat} (h : k < 2147483648) : ((1180 : Int32) = nI k) = (1180 = k) := propext (iE (a := 1180) (Nat.le_of_ble_eq_true rfl) h)
theorem cs1180 {k : Nat} (h : 1180 ≤ k) : nI k - (1180 : Int32) = nI (k - 1180) := pk_sub h
theorem ca1180 {k : Nat} : nI k + (1180 : Int32) = nI (k + 1180) := nI_add k 1180
theorem cb1180 {k : Nat} : (1180 : Int32) + nI k = nI (1180 + k) := nI_add 1180 k
theorem cl1200 {k : Nat} (h : k < 2147483648) : ((1200 : Int32) ≤ nI k) = (1200 ≤ k) := propext (iL (a := 1200) (Nat.le_of_ble_eq_true rfl) h)
theorem cn1200 {k : Nat} (h : k < 2147483648) : (nI k ≤ (1200 : Int32)) = (k ≤ 1200) := propext (iL (b := 1200) h (Nat.le_of_ble_eq_true rfl))
theorem ct1200 {k : Nat} (h : k < 2147483648) : ((1200 : Int32) < nI k) = (1200 < k) := propext (iT (a := 1200) (Nat.le_of_ble_eq_true rfl) h)
theorem cu1200 {k : Nat} (h : k < 2147483648) : (nI k < (1200 : Int32)) = (k < 1200) := propext (iT (b := 1200) h (Nat.le_of_ble_eq_true rfl))
theorem ce1200 {k : Nat} (h : k < 2147483648) : (nI k = (1200 : Int32)) = (k = 1200) := propext (iE (b := 1200) h (Nat.le_of_ble_eq_true rfl))
theorem cf1200 {k : Nat} (h : k < 2147483648) : ((1200 : Int32) = nI k) = (1200 = k) := propext (iE (a := 1200) (Nat.le_of_ble_eq_true rfl) h)
theorem cs1200 {k : Nat} (h : 1200 ≤ k) : nI k - (1200 : Int32) = nI (k - 1200) := pk_sub h
theorem ca1200 {k : Nat} : nI k + (1200 : Int32) = nI (k + 1200) := nI_add k 1200
theorem cb1200 {k : Nat} : (1200 : Int32) + nI k = nI (1200 + k) := nI_add 1200 k
theorem cl1920 {k : Nat} (h : k < 2147483648) : ((1920 : Int32) ≤ nI k) = (1920 ≤ k) := propext (iL (a := 1920) (Nat.le_of_ble_eq_true rfl) h)
theorem cn1920 {k : Nat} (h : k < 2147483648) : (nI k ≤ (1920 : Int32)) = (k ≤ 1920) := propext (iL (b := 1920) h (Nat.le_of_ble_eq_true rfl))
theorem ct1920 {k : Nat} (h : k < 2147483648) : ((1920 : Int32) < nI k) = (1920 < k) := propext (iT (a := 1920) (Nat.le_of_ble_eq_true rfl) h)
theorem cu1920 {k : Nat} (h : k < 2147483648) : (nI k < (1920 : Int32)) = (k < 1920) := propext (iT (b := 1920) h (Nat.le_of_ble_eq_true rfl))
theorem ce1920 {k : Nat} (h : k < 2147483648) : (nI k = (1920 : Int32)) = (k = 1920) := propext (iE (b := 1920) h (Nat.le_of_ble_eq_true rfl))
theorem cf1920 {k : Nat} (h : k < 2147483648) : ((1920 : Int32) = nI k) = (1920 = k) := propext (iE (a := 1920) (Nat.le_of_ble_eq_true rfl) h)
theorem cs1920 {k : Nat} (h : 1920 ≤ k) : nI k - (1920 : Int32) = nI (k - 1920) := pk_sub h
theorem ca1920 {k : Nat} : nI k + (1920 : Int32) = nI (k + 1920) := nI_add k 1920
theorem cb1920 {k : Nat} : (1920 : Int32) + nI k = nI (1920 + k) := nI_add 1920 k
theorem cl2000 {k : Nat} (h : k < 2147483648) : ((2000 : Int32) ≤ nI k) = (2000 ≤ k) := propext (iL (a := 2000) (Nat.le_of_ble_eq_true rfl) h)
theorem cn2000 {k : Nat} (h : k < 2147483648) : (nI k ≤ (2000 : Int32)) = (k ≤ 2000) := propext (iL (b := 2000) h (Nat.le_of_ble_eq_true rfl))
theorem ct2000 {k : Nat} (h : k < 2147483648) : ((2000 : Int32) < nI k) = (2000 < k) := propext (iT (a := 2000) (Nat.le_of_ble_eq_true rfl) h)
theorem cu2000 {k : Nat} (h : k < 2147483648) : (nI k < (2000 : Int32)) = (k < 2000) := propext (iT (b := 2000) h (Nat.le_of_ble_eq_true rfl))
theorem ce2000 {k : Nat} (h : k < 2147483648) : (nI k = (2000 : Int32)) = (k = 2000) := propext (iE (b := 2000) h (Nat.le_of_ble_eq_true rfl))
theorem cf2000 {k : Nat} (h : k < 2147483648) : ((2000 : Int32) = nI k) = (2000 = k) := propext (iE (a := 2000) (Nat.le_of_ble_eq_true rfl) h)
theorem cs2000 {k : Nat} (h : 2000 ≤ k) : nI k - (2000 : Int32) = nI (k - 2000) := pk_sub h
theorem ca2000 {k : Nat} : nI k + (2000 : Int32) = nI (k + 2000) := nI_add k 2000
theorem cb2000 {k : Nat} : (2000 : Int32) + nI k = nI (2000 + k) := nI_add 2000 k
theorem cl16 {k : Nat} (h : k < 2147483648) : ((16 : Int32) ≤ nI k) = (16 ≤ k) := propext (iL (a := 16) (Nat.le_of_ble_eq_true rfl) h)
theorem cn16 {k : Nat} (h : k < 2147483648) : (nI k ≤ (16 : Int32)) = (k ≤ 16) := propext (iL (b := 16) h (Nat.le_of_ble_eq_true rfl))
theorem ct16 {k : Nat} (h : k < 2147483648) : ((16 : Int32) < nI k) = (16 < k) := propext (iT (a := 16) (Nat.le_of_ble_eq_true rfl) h)
theorem cu16 {k : Nat} (h : k < 2147483648) : (nI k < (16 : Int32)) = (k < 16) := propext (iT (b := 16) h (Nat.le_of_ble_eq_true rfl))
theorem ce16 {k : Nat} (h : k < 2147483648) : (nI k = (16 : Int32)) = (k = 16) := propext (iE (b := 16) h (Nat.le_of_ble_eq_true rfl))
theorem cf16 {k : Nat} (h : k < 2147483648) : ((16 : Int32) = nI k) = (16 = k) := propext (iE (a := 16) (Nat.le_of_ble_eq_true rfl) h)
theorem cs16 {k : Nat} (h : 16 ≤ k) : nI k - (16 : Int32) = nI (k - 16) := pk_sub h
theorem ca16 {k : Nat} : nI k + (16 : Int32) = nI (k + 16) := nI_add k 16
theorem cb16 {k : Nat} : (16 : Int32) + nI k = nI (16 + k) := nI_add 16 k
theorem cl13 {k : Nat} (h : k < 2147483648) : ((13 : Int32) ≤ nI k) = (13 ≤ k) := propext (iL (a := 13) (Nat.le_of_ble_eq_true rfl) h)
theorem cn13 {k : Nat} (h : k < 2147483648) : (nI k ≤ (13 : Int32)) = (k ≤ 13) := propext (iL (b := 13) h (Nat.le_of_ble_eq_true rfl))
theorem ct13 {k : Nat} (h : k < 2147483648) : ((13 : Int32) < nI k) = (13 < k) := propext (iT (a := 13) (Nat.le_of_ble_eq_true rfl) h)
theorem cu13 {k : Nat} (h : k < 2147483648) : (nI k < (13 : Int32)) = (k < 13) := propext (iT (b := 13) h (Nat.le_of_ble_eq_true rfl))
theorem ce13 {k : Nat} (h : k < 2147483648) : (nI k = (13 : Int32)) = (k = 13) := propext (iE (b := 13) h (Nat.le_of_ble_eq_true rfl))
theorem cf13 {k : Nat} (h : k < 2147483648) : ((13 : Int32) = nI k) = (13 = k) := propext (iE (a := 13) (Nat.le_of_ble_eq_true rfl) h)
theorem cs13 {k : Nat} (h : 13 ≤ k) : nI k - (13 : Int32) = nI (k - 13) := pk_sub h
theorem ca13 {k : Nat} : nI k + (13 : Int32) = nI (k + 13) := nI_add k 13
theorem cb13 {k : Nat} : (13 : Int32) + nI k = nI (13 + k) := nI_add 13 k
theorem cl45 {k : Nat} (h : k < 2147483648) : ((45 : Int32) ≤ nI k) = (45 ≤ k) := propext (iL (a := 45) (Nat.le_of_ble_eq_true rfl) h)
theorem cn45 {k : Nat} (h : k < 2147483648) : (nI k ≤ (45 : Int32)) = (k ≤ 45) := propext (iL (b := 45) h (Nat.le_of_ble_eq_true rfl))
theorem ct45 {k : Nat} (h : k < 2147483648) : ((45 : Int32) < nI k) = (45 < k) := propext (iT (a := 45) (Nat.le_of_ble_eq_true rfl) h)
theorem cu45 {k : Nat} (h : k < 2147483648) : (nI k < (45 : Int32)) = (k < 45) := propext (iT (b := 45) h (Nat.le_of_ble_eq_true rfl))
theorem ce45 {k : Nat} (h : k < 2147483648) : (nI k = (45 : Int32)) = (k = 45) := propext (iE (b := 45) h (Nat.le_of_ble_eq_true rfl))
theorem cf45 {k : Nat} (h : k < 2147483648) : ((45 : Int32) = nI k) = (45 = k) := propext (iE (a := 45) (Nat.le_of_ble_eq_true rfl) h)
theorem cs45 {k : Nat} (h : 45 ≤ k) : nI k - (45 : Int32) = nI (k - 45) := pk_sub h
theorem ca45 {k : Nat} : nI k + (45 : Int32) = nI (k + 45) := nI_add k 45
theorem cb45 {k : Nat} : (45 : Int32) + nI k = nI (45 + k) := nI_add 45 k
theorem cl48 {k : Nat} (h : k < 2147483648) : ((48 : Int32) ≤ nI k) = (48 ≤ k) := propext (iL (a := 48) (Nat.le_of_ble_eq_true rfl) h)
theorem cn48 {k : Nat} (h : k < 2147483648) : (nI k ≤ (48 : Int32)) = (k ≤ 48) := propext (iL (b := 48) h (Nat.le_of_ble_eq_true rfl))
theorem ct48 {k : Nat} (h : k < 2147483648) : ((48 : Int32) < nI k) = (48 < k) := propext (iT (a := 48) (Nat.le_of_ble_eq_true rfl) h)
theorem cu48 {k : Nat} (h : k < 2147483648) : (nI k < (48 : Int32)) = (k < 48) := propext (iT (b := 48) h (Nat.le_of_ble_eq_true rfl))
theorem ce48 {k : Nat} (h : k < 2147483648) : (nI k = (48 : Int32)) = (k = 48) := propext (iE (b := 48) h (Nat.le_of_ble_eq_true rfl))
theorem cf48 {k : Nat} (h : k < 2147483648) : ((48 : Int32) = nI k) = (48 = k) := propext (iE (a := 48) (Nat.le_of_ble_eq_true rfl) h)
theorem cs48 {k : Nat} (h : 48 ≤ k) : nI k - (48 : Int32) = nI (k - 48) := pk_sub h
theorem ca48 {k : Nat} : nI k + (48 : Int32) = nI (k + 48) := nI_add k 48
theorem cb48 {k : Nat} : (48 : Int32) + nI k = nI (48 + k) := nI_add 48 k
theorem cl57 {k : Nat} (h : k < 2147483648) : ((57 : Int32) ≤ nI k) = (57 ≤ k) := propext (iL (a := 57) (Nat.le_of_ble_eq_true rfl) h)
theorem cn57 {k : Nat} (h : k < 2147483648) : (nI k ≤ (57 : Int32)) = (k ≤ 57) := propext (iL (b := 57) h (Nat.le_of_ble_eq_true rfl))
theorem ct57 {k : Nat} (h : k < 2147483648) : ((57 : Int32) < nI k) = (57 < k) := propext (iT (a := 57) (Nat.le_of_ble_eq_true rfl) h)
theorem cu57 {k : Nat} (h : k < 2147483648) : (nI k < (57 : Int32)) = (k < 57) := propext (iT (b := 57) h (Nat.le_of_ble_eq_true rfl))
theorem ce57 {k : Nat} (h : k < 2147483648) : (nI k = (57 : Int32)) = (k = 57) := propext (iE (b := 57) h (Nat.le_of_ble_eq_true rfl))
theorem cf57 {k : Nat} (h : k < 2147483648) : ((57 : Int32) = nI k) = (57 = k) := propext (iE (a := 57) (Nat.le_of_ble_eq_true rfl) h)
theorem cs57 {k : Nat} (h : 57 ≤ k) : nI k - (57 : Int32) = nI (k - 57) := pk_sub h
theorem ca57 {k : Nat} : nI k + (57 : Int32) = nI (k + 57) := nI_add k 57
theorem cb57 {k : Nat} : (57 : Int32) + nI k = nI (57 + k) := nI_add 57 k
theorem cl59 {k : Nat} (h : k < 2147483648) : ((59 : Int32) ≤ nI k) = (59 ≤ k) := propext (iL (a := 59) (Nat.le_of_ble_eq_true rfl) h)
theorem cn59 {k : Nat} (h : k < 2147483648) : (nI k ≤ (59 : Int32)) = (k ≤ 59) := propext (iL (b := 59) h (Nat.le_of_ble_eq_true rfl))
theorem ct59 {k : Nat} (h : k < 2147483648) : ((59 : Int32) < nI k) = (59 < k) := propext (iT (a := 59) (Nat.le_of_ble_eq_true rfl) h)
theorem cu59 {k : Nat} (h : k < 2147483648) : (nI k < (59 : Int32)) = (k < 59) := propext (iT (b := 59) h (Nat.le_of_ble_eq_true rfl))
theorem ce59 {k : Nat} (h : k < 2147483648) : (nI k = (59 : Int32)) = (k = 59) := propext (iE (b := 59) h (Nat.le_of_ble_eq_true rfl))
theorem cf59 {k : Nat} (h : k < 2147483648) : ((59 : Int32) = nI k) = (59 = k) := propext (iE (a := 59) (Nat.le_of_ble_eq_true rfl) h)
theorem cs59 {k : Nat} (h : 59 ≤ k) : nI k - (59 : Int32) = nI (k - 59) := pk_sub h
theorem ca59 {k : Nat} : nI k + (59 : Int32) = nI (k + 59) := nI_add k 59
theorem cb59 {k : Nat} : (59 : Int32) + nI k = nI (59 + k) := nI_add 59 k
theorem cl97 {k : Nat} (h : k < 2147483648) : ((97 : Int32) ≤ nI k) = (97 ≤ k) := propext (iL (a := 97) (Nat.le_of_ble_eq_true rfl) h)
theorem cn97 {k : Nat} (h : k < 2147483648) : (nI k ≤ (97 : Int32)) = (k ≤ 97) := propext (iL (b := 97) h (Nat.le_of_ble_eq_true rfl))
theorem ct97 {k : Nat} (h : k < 2147483648) : ((97 : Int32) < nI k) = (97 < k) := propext (iT (a := 97) (Nat.le_of_ble_eq_true rfl) h)
theorem cu97 {k : Nat} (h : k < 2147483648) : (nI k < (97 : Int32)) = (k < 97) := propext (iT (b := 97) h (Nat.le_of_ble_eq_true rfl))
theorem ce97 {k : Nat} (h : k < 2147483648) : (nI k = (97 : Int32)) = (k = 97) := propext (iE (b := 97) h (Nat.le_of_ble_eq_true rfl))
theorem cf97 {k : Nat} (h : k < 2147483648) : ((97 : Int32) = nI k) = (97 = k) := propext (iE (a := 97) (Nat.le_of_ble_eq_true rfl) h)
theorem cs97 {k : Nat} (h : 97 ≤ k) : nI k - (97 : Int32) = nI (k - 97) := pk_sub h
theorem ca97 {k : Nat} : nI k + (97 : Int32) = nI (k + 97) := nI_add k 97
theorem cb97 {k : Nat} : (97 : Int32) + nI k = nI (97 + k) := nI_add 97 k
theorem cl120 {k : Nat} (h : k < 2147483648) : ((120 : Int32) ≤ nI k) = (120 ≤ k) := propext (iL (a := 120) (Nat.le_of_ble_eq_true rfl) h)
theorem cn120 {k : Nat} (h : k < 2147483648) : (nI k ≤ (120 : Int32)) = (k ≤ 120) := propext (iL (b := 120) h (Nat.le_of_ble_eq_true rfl))
theorem ct120 {k : Nat} (h : k < 2147483648) : ((120 : Int32) < nI k) = (120 < k) := propext (iT (a := 120) (Nat.le_of_ble_eq_true rfl) h)
theorem cu120 {k : Nat} (h : k < 2147483648) : (nI k < (120 : Int32)) = (k < 120) := propext (iT (b := 120) h (Nat.le_of_ble_eq_true rfl))
theorem ce120 {k : Nat} (h : k < 2147483648) : (nI k = (120 : Int32)) = (k = 120) := propext (iE (b := 120) h (Nat.le_of_ble_eq_true rfl))
theorem cf120 {k : Nat} (h : k < 2147483648) : ((120 : Int32) = nI k) = (120 = k) := propext (iE (a := 120) (Nat.le_of_ble_eq_true rfl) h)
theorem cs120 {k : Nat} (h : 120 ≤ k) : nI k - (120 : Int32) = nI (k - 120) := pk_sub h
theorem ca120 {k : Nat} : nI k + (120 : Int32) = nI (k + 120) := nI_add k 120
theorem cb120 {k : Nat} : (120 : Int32) + nI k = nI (120 + k) := nI_add 120 k
theorem cl122 {k : Nat} (h : k < 2147483648) : ((122 : Int32) ≤ nI k) = (122 ≤ k) := propext (iL (a := 122) (Nat.le_of_ble_eq_true rfl) h)
theorem cn122 {k : Nat} (h : k < 2147483648) : (nI k ≤ (122 : Int32)) = (k ≤ 122) := propext (iL (b := 122) h (Nat.le_of_ble_eq_true rfl))
theorem ct122 {k : Nat} (h : k < 2147483648) : ((122 : Int32) < nI k) = (122 < k) := propext (iT (a := 122) (Nat.le_of_ble_eq_true rfl) h)
theorem cu122 {k : Nat} (h : k < 2147483648) : (nI k < (122 : Int32)) = (k < 122) := propext (iT (b := 122) h (Nat.le_of_ble_eq_true rfl))
theorem ce122 {k : Nat} (h : k < 2147483648) : (nI k = (122 : Int32)) = (k = 122) := propext (iE (b := 122) h (Nat.le_of_ble_eq_true rfl))
theorem cf122 {k : Nat} (h : k < 2147483648) : ((122 : Int32) = nI k) = (122 = k) := propext (iE (a := 122) (Nat.le_of_ble_eq_true rfl) h)
theorem cs122 {k : Nat} (h : 122 ≤ k) : nI k - (122 : Int32) = nI (k - 122) := pk_sub h
theorem ca122 {k : Nat} : nI k + (122 : Int32) = nI (k + 122) := nI_add k 122
theorem cb122 {k : Nat} : (122 : Int32) + nI k = nI (122 + k) := nI_add 122 k
theorem sM1 {k : Nat} (h : k < 2147483648) : (nI k = -1) = False := eq_false (iM h)
theorem sF {a b : Nat} (h : a < b) : (b ≤ a) = False := eq_false (by omega)
theorem sGt {a b : Nat} (h : a ≤ b) : (b < a) = False := eq_false (by omega)
theorem sLe {a b : Nat} (h : a ≤ b) : (a ≤ b) = True := eq_true h
theorem sLt {a b : Nat} (h : a < b) : (a < b) = True := eq_true h
theorem sNe {a b : Nat} (h : a ≠ b) : (a = b) = False := eq_false h
theorem sIn {x : Int32} (n : Nat) (hn : n < 2147483648) : (x.toInt = (n : Int)) = (x = nI n) := propext ⟨fun h => Int32.toInt_inj.mp (h.trans (nI_toInt hn).symm), fun h => by rw [h]; exact nI_toInt hn⟩
theorem sI0 {x : Int32} : (x.toInt = 0) = (x = 0) := sIn 0 (by omega)
theorem sI1 {x : Int32} : (x.toInt = 1) = (x = 1) := sIn 1 (by omega)
theorem sI2 {x : Int32} : (x.toInt = 2) = (x = 2) := sIn 2 (by omega)
theorem sI3 {x : Int32} : (x.toInt = 3) = (x = 3) := sIn 3 (by omega)
theorem sI4 {x : Int32} : (x.toInt = 4) = (x = 4) := sIn 4 (by omega)
theorem sI5 {x : Int32} : (x.toInt = 5) = (x = 5) := sIn 5 (by omega)
/-- an index: outside, or a place -/
theorem ixc (x : Int32) {n : Nat} (hn : n < 2147483648) : (x < 0 ∨ nI n ≤ x) ∨ ∃ j : Nat, j < n ∧ x = nI j := by
  rcases pk_ix x hn with h | h | h
  · exact Or.inl (Or.inl h)
  · exact Or.inl (Or.inr h)
  · exact Or.inr h
/-- nothing but the cells ks was written -/
def Ko (ks : List Nat) (D D' : pD) : Prop := ∀ k, k ∉ ks → D' k = D k
theorem Ko.rf {ks : List Nat} {D : pD} : Ko ks D D := fun _ _ => rfl
theorem Ko.tr {ks : List Nat} {D D1 D2 : pD} (h1 : Ko ks D D1) (h2 : Ko ks D1 D2) : Ko ks D D2 := fun k h => (h2 k h).trans (h1 k h)
theorem Ko.sub {ks ks' : List Nat} {D D' : pD} (h : Ko ks D D') (hs : ∀ k ∈ ks, k ∈ ks') : Ko ks' D D' := fun k q => h k (fun z => q (hs k z))
theorem Ko.set {ks : List Nat} {D D1 : pD} {k : Nat} (h : Ko ks D D1) (hk : k ∈ ks) (j i : Nat) (x : Int32) : Ko ks D (dset D1 k j i x) := fun k' h' => by
  rw [← h k' h']
  funext j'
  exact dset_ne (fun e => h' (e.1 ▸ hk))
theorem Ko.cpy {ks : List Nat} {D D1 : pD} {d : Nat} (h : Ko ks D D1) (hd : d ∈ ks) (s sp dp n : Nat) : Ko ks D (dcpy D1 s sp d dp n) := fun k' h' => by
  rw [← h k' h']
  funext j'
  unfold dcpy
  exact if_neg (fun e : k' = d ∧ j' = 0 => h' (e.1 ▸ hd))
theorem Ks.ko {ks : List Nat} {D D' : pD} (h : Ks ks D D') : Ko ks D D' := fun k q => funext fun j => h k j (Or.inl q)
theorem Ko.at {ks : List Nat} {D D' : pD} (h : Ko ks D D') {l : List Nat} (hl : ∀ k ∈ l, k ∉ ks) : ∀ k ∈ l, D' k 0 = D k 0 := fun k hk => congrFun (h k (hl k hk)) 0
theorem dsN {D : pD} {k k' j j' i : Nat} {x : Int32} (h : k' ≠ k) : dset D k j i x k' j' = D k' j' := dset_ne (fun e => h e.1)
theorem dsA {D : pD} {k i j : Nat} {x : Int32} : dset D k 0 i x k 0 j = if j = i then x else D k 0 j := dset_at
theorem dsU {D : pD} {k i : Nat} {x : Int32} : dset D k 0 i x k 0 = upd (D k 0) i x := dset_eq
theorem dcN {D : pD} {s sp d dp n k' j' : Nat} (h : k' ≠ d) : dcpy D s sp d dp n k' j' = D k' j' := if_neg (fun e => h e.1)
theorem dcE {D : pD} {s sp d dp n : Nat} : dcpy D s sp d dp n d 0 = va_cpy (D s 0) (D d 0) sp dp n := if_pos ⟨rfl, rfl⟩
/-! the relation -/
def iTape (D : pD) : Prop := ∃ n : Nat, n ≤ 1200 ∧ D 1 0 1 = nI n ∧ D 100 0 1 = nI n ∧ (∀ i, i < n → D 101 0 i = D 2 0 i ∧ (D 2 0 i).toInt8.toInt32 = D 2 0 i) ∧ ∀ p, p < 24 → vp_in (D 25 0 p) 12
def iFault (D : pD) : Prop := D 100 0 8 = D 17 0 4 ∧ D 100 0 9 = D 17 0 5
def iCnt (cN cW cP cT cH : Nat) (D : pD) : Prop := (cN ≤ 12 ∧ cW ≤ 20 ∧ cP ≤ 24 ∧ cT ≤ 20 ∧ cH ≤ 6) ∧ (D 4 0 0 = nI cN ∧ D 4 0 1 = nI cW ∧ D 4 0 2 = nI cP ∧ D 4 0 3 = nI cT ∧ D 4 0 4 = nI cH) ∧ (D 102 0 0 = nI cN ∧ D 102 0 1 = nI cW ∧ D 102 0 2 = nI cP ∧ D 102 0 3 = nI cT ∧ D 102 0 4 = nI cH)
def iSet (D : pD) : Prop := ∀ k, k < 5 → ∃ s : Nat, s ≤ 99 ∧ D 5 0 k = nI s ∧ D 102 0 (5 + k) = nI s
def iWts (D : pD) : Prop := ∀ t, t < 24 → ∃ w : Nat, w ≤ 9 ∧ D 6 0 t = nI w ∧ D 114 0 t = nI w
def iRows (cN cW cP cT cH : Nat) (D : pD) : Prop := (∀ i, i < cN → D 105 0 i = D 8 0 i) ∧ (∀ i, i < cW → D 106 0 i = D 9 0 i) ∧ (∀ p, p < 24 → vp_in (D 10 0 p) 12) ∧ (∀ p, p < cP → D 107 0 p = D 10 0 p ∧ vp_in (D 10 0 p) cN ∧ D 108 0 p = D 11 0 p) ∧ (∀ t, t < cT → D 109 0 t = D 12 0 t ∧ D 110 0 t = D 13 0 t ∧ D 111 0 t = D 14 0 t ∧ vp_in (D 12 0 t) cP ∧ vp_in (D 13 0 t) cP ∧ D 12 0 t ≠ D 13 0 t) ∧ (∀ h, h < cH → D 112 0 h = D 15 0 h ∧ D 113 0 h = D 16 0 h)
def iBook (cN cW cP cT cH : Nat) (D : pD) : Prop := iCnt cN cW cP cT cH D ∧ iSet D ∧ iWts D ∧ GS D ∧ iRows cN cW cP cT cH D
/-- two renderings that are one: class and reference -/
def iRen (cW cP : Nat) (k a b c n k' a' b' c' n' : Nat → Int32) : Prop := ∀ p, p < 24 → SC cW (k p) (a p) (b p) (c p) (k' p) (a' p) (b' p) (c' p) ∧ n' p = n p ∧ (cP ≤ p → k p = -1 ∧ n p = 0)
def iNow (cW cP : Nat) (D : pD) : Prop := iRen cW cP (D 43 0) (D 44 0) (D 45 0) (D 46 0) (D 47 0) (D 115 0) (D 116 0) (D 117 0) (D 118 0) (D 119 0)
/-- a kept rendering: cells b + 1 .. b + 5 against the slot i -/
def iSl (cW cP b i : Nat) (D : pD) : Prop := D 125 0 i = D 49 0 i ∧ (D 49 0 i = 0 ∨ (D 49 0 i = 1 ∧ iRen cW cP (D (b + 1) 0) (D (b + 2) 0) (D (b + 3) 0) (D (b + 4) 0) (D (b + 5) 0) (fun p => D 126 0 (24 * i + p)) (fun p => D 127 0 (24 * i + p)) (fun p => D 128 0 (24 * i + p)) (fun p => D 129 0 (24 * i + p)) (fun p => D 130 0 (24 * i + p))))
def iKept (cW cP : Nat) (D : pD) : Prop := iSl cW cP 76 0 D ∧ iSl cW cP 82 1 D ∧ iSl cW cP 88 2 D ∧ iSl cW cP 94 3 D
def iGiven (D : pD) : Prop := ∀ p, p < 24 → ∀ w, w < 20 → ∀ v, v < 4 → ∃ n : Nat, n ≤ 99 ∧ D 58 0 ((p * 20 + w) * 4 + v) = nI n ∧ D 131 0 ((v * 24 + p) * 20 + w) = nI n
def iYears (cW : Nat) (D : pD) : Prop := ∃ cM : Nat, cM ≤ 40 ∧ D 59 0 6 = nI cM ∧ D 100 0 44 = nI cM ∧ (∀ i, i < cM → D 132 0 i = D 60 0 i ∧ D 133 0 i = D 61 0 i ∧ D 134 0 i = D 62 0 i ∧ vp_in (D 60 0 i) cW ∧ vp_in (D 61 0 i) 2001) ∧ ∀ i j, i < j → j < cM → D 60 0 i = D 60 0 j → D 61 0 i ≤ D 61 0 j
/-- how often k stands among the first n -/
def cnt (f : Nat → Int32) (x : Int32) : Nat → Nat
  | 0 => 0
  | n + 1 => cnt f x n + (if f n = x then 1 else 0)
def iLaugh (D : pD) : Prop := ∃ cL cR : Nat, cL ≤ 30 ∧ cR ≤ 20 ∧ D 65 0 12 = nI cL ∧ D 100 0 48 = nI cL ∧ D 65 0 13 = nI cR ∧ D 100 0 49 = nI cR ∧ D 100 0 50 = D 65 0 11 ∧ (∀ k, k < cL → D 136 0 k = D 66 0 k ∧ D 137 0 k = D 67 0 k ∧ D 138 0 k = D 68 0 k ∧ D 135 0 k = D 69 0 k ∧ (D 68 0 k = 0 ∨ D 68 0 k = 1) ∧ D 70 0 k = nI (cnt (D 71 0) (nI k) cR)) ∧ ∀ i, i < cR → D 140 0 i = D 71 0 i ∧ D 141 0 i = D 72 0 i ∧ D 139 0 i = D 73 0 i ∧ vp_in (D 71 0 i) cL ∧ (D 72 0 i = 0 ∨ D 72 0 i = 1)
def Inv (D : pD) : Prop := ∃ cN cW cP cT cH : Nat, iTape D ∧ iFault D ∧ iBook cN cW cP cT cH D ∧ iNow cW cP D ∧ iKept cW cP D ∧ iGiven D ∧ iYears cW D ∧ iLaugh D
/-! what is left alone stays -/
theorem iTape.fr {D D' : pD} (h : iTape D) (e : ∀ k ∈ [2, 25, 101], D' k 0 = D k 0) (f1 : D' 1 0 1 = D 1 0 1) (f2 : D' 100 0 1 = D 100 0 1) : iTape D' := by
  unfold iTape at h ⊢
  rw [f1, f2, e 2 (by decide), e 25 (by decide), e 101 (by decide)]
  exact h
theorem iFault.fr {D D' : pD} (h : iFault D) (f1 : D' 17 0 4 = D 17 0 4) (f2 : D' 17 0 5 = D 17 0 5) (f3 : D' 100 0 8 = D 100 0 8) (f4 : D' 100 0 9 = D 100 0 9) : iFault D' := by
  unfold iFault at h ⊢
  rw [f1, f2, f3, f4]
  exact h
theorem iBook.fr {cN cW cP cT cH : Nat} {D D' : pD} (h : iBook cN cW cP cT cH D) (e : ∀ k ∈ [4, 5, 6, 7, 8, 9, 10, 11, 12, 13, 14, 15, 16, 102, 105, 106, 107, 108, 109, 110, 111, 112, 113, 114], D' k 0 = D k 0) : iBook cN cW cP cT cH D' := by
  unfold iBook iCnt iSet iWts GS iRows at h ⊢
  rw [e 4 (by decide), e 5 (by decide), e 6 (by decide), e 7 (by decide), e 8 (by decide), e 9 (by decide), e 10 (by decide), e 11 (by decide), e 12 (by decide), e 13 (by decide), e 14 (by decide), e 15 (by decide), e 16 (by decide), e 102 (by decide), e 105 (by decide), e 106 (by decide), e 107 (by decide), e 108 (by decide), e 109 (by decide), e 110 (by decide), e 111 (by decide), e 112 (by decide), e 113 (by decide), e 114 (by decide)]
  exact h
theorem iNow.fr {cW cP : Nat} {D D' : pD} (h : iNow cW cP D) (e : ∀ k ∈ [43, 44, 45, 46, 47, 115, 116, 117, 118, 119], D' k 0 = D k 0) : iNow cW cP D' := by
  unfold iNow at h ⊢
  rw [e 43 (by decide), e 44 (by decide), e 45 (by decide), e 46 (by decide), e 47 (by decide), e 115 (by decide), e 116 (by decide), e 117 (by decide), e 118 (by decide), e 119 (by decide)]
  exact h
theorem iSl.fr {cW cP b i : Nat} {D D' : pD} (h : iSl cW cP b i D) (e : ∀ k ∈ [b + 1, b + 2, b + 3, b + 4, b + 5, 49, 125], D' k 0 = D k 0) (f : ∀ k ∈ [126, 127, 128, 129, 130], ∀ p, p < 24 → D' k 0 (24 * i + p) = D k 0 (24 * i + p)) : iSl cW cP b i D' := by
  unfold iSl at h ⊢
  rw [e (b + 1) (by simp), e (b + 2) (by simp), e (b + 3) (by simp), e (b + 4) (by simp), e (b + 5) (by simp), e 49 (by simp), e 125 (by simp)]
  refine ⟨h.1, h.2.imp id (fun q => ⟨q.1, fun p hp => ?_⟩)⟩
  have := q.2 p hp
  dsimp only at this ⊢
  rw [f 126 (by decide) p hp, f 127 (by decide) p hp, f 128 (by decide) p hp, f 129 (by decide) p hp, f 130 (by decide) p hp]
  exact this
theorem iKept.fr {cW cP : Nat} {D D' : pD} (h : iKept cW cP D) (e : ∀ k ∈ [49, 77, 78, 79, 80, 81, 83, 84, 85, 86, 87, 89, 90, 91, 92, 93, 95, 96, 97, 98, 99, 125, 126, 127, 128, 129, 130], D' k 0 = D k 0) : iKept cW cP D' := by
  have f : ∀ i : Nat, ∀ k ∈ [126, 127, 128, 129, 130], ∀ p, p < 24 → D' k 0 (24 * i + p) = D k 0 (24 * i + p) := by
    intro i k hk p _
    rw [e k ((by decide : ∀ k ∈ [126, 127, 128, 129, 130], k ∈ [49, 77, 78, 79, 80, 81, 83, 84, 85, 86, 87, 89, 90, 91, 92, 93, 95, 96, 97, 98, 99, 125, 126, 127, 128, 129, 130]) k hk)]
  exact ⟨h.1.fr (fun k hk => e k ((by decide : ∀ k ∈ [76 + 1, 76 + 2, 76 + 3, 76 + 4, 76 + 5, 49, 125], k ∈ [49, 77, 78, 79, 80, 81, 83, 84, 85, 86, 87, 89, 90, 91, 92, 93, 95, 96, 97, 98, 99, 125, 126, 127, 128, 129, 130]) k hk)) (f 0),
    h.2.1.fr (fun k hk => e k ((by decide : ∀ k ∈ [82 + 1, 82 + 2, 82 + 3, 82 + 4, 82 + 5, 49, 125], k ∈ [49, 77, 78, 79, 80, 81, 83, 84, 85, 86, 87, 89, 90, 91, 92, 93, 95, 96, 97, 98, 99, 125, 126, 127, 128, 129, 130]) k hk)) (f 1),
    h.2.2.1.fr (fun k hk => e k ((by decide : ∀ k ∈ [88 + 1, 88 + 2, 88 + 3, 88 + 4, 88 + 5, 49, 125], k ∈ [49, 77, 78, 79, 80, 81, 83, 84, 85, 86, 87, 89, 90, 91, 92, 93, 95, 96, 97, 98, 99, 125, 126, 127, 128, 129, 130]) k hk)) (f 2),
    h.2.2.2.fr (fun k hk => e k ((by decide : ∀ k ∈ [94 + 1, 94 + 2, 94 + 3, 94 + 4, 94 + 5, 49, 125], k ∈ [49, 77, 78, 79, 80, 81, 83, 84, 85, 86, 87, 89, 90, 91, 92, 93, 95, 96, 97, 98, 99, 125, 126, 127, 128, 129, 130]) k hk)) (f 3)⟩
theorem iGiven.fr {D D' : pD} (h : iGiven D) (e : ∀ k ∈ [58, 131], D' k 0 = D k 0) : iGiven D' := by
  unfold iGiven at h ⊢
  rw [e 58 (by decide), e 131 (by decide)]
  exact h
theorem iYears.fr {cW : Nat} {D D' : pD} (h : iYears cW D) (e : ∀ k ∈ [60, 61, 62, 132, 133, 134], D' k 0 = D k 0) (f1 : D' 59 0 6 = D 59 0 6) (f2 : D' 100 0 44 = D 100 0 44) : iYears cW D' := by
  unfold iYears at h ⊢
  rw [f1, f2, e 60 (by decide), e 61 (by decide), e 62 (by decide), e 132 (by decide), e 133 (by decide), e 134 (by decide)]
  exact h
theorem iLaugh.fr {D D' : pD} (h : iLaugh D) (e : ∀ k ∈ [66, 67, 68, 69, 70, 71, 72, 73, 135, 136, 137, 138, 139, 140, 141], D' k 0 = D k 0) (f1 : D' 65 0 11 = D 65 0 11) (f2 : D' 65 0 12 = D 65 0 12) (f3 : D' 65 0 13 = D 65 0 13) (f4 : D' 100 0 48 = D 100 0 48) (f5 : D' 100 0 49 = D 100 0 49) (f6 : D' 100 0 50 = D 100 0 50) : iLaugh D' := by
  unfold iLaugh at h ⊢
  rw [f1, f2, f3, f4, f5, f6, e 66 (by decide), e 67 (by decide), e 68 (by decide), e 69 (by decide), e 70 (by decide), e 71 (by decide), e 72 (by decide), e 73 (by decide), e 135 (by decide), e 136 (by decide), e 137 (by decide), e 138 (by decide), e 139 (by decide), e 140 (by decide), e 141 (by decide)]
  exact h
/-- cells that the relation doesn't speak of -/
theorem Inv.ko {ks : List Nat} {D D' : pD} (h : Inv D) (hk : Ko ks D D') (hs : ∀ k ∈ [1, 2, 4, 5, 6, 7, 8, 9, 10, 11, 12, 13, 14, 15, 16, 17, 25, 43, 44, 45, 46, 47, 49, 58, 59, 60, 61, 62, 66, 67, 68, 69, 70, 71, 72, 73, 77, 78, 79, 80, 81, 83, 84, 85, 86, 87, 89, 90, 91, 92, 93, 95, 96, 97, 98, 99, 100, 101, 102, 105, 106, 107, 108, 109, 110, 111, 112, 113, 114, 115, 116, 117, 118, 119, 125, 126, 127, 128, 129, 130, 131, 132, 133, 134, 135, 136, 137, 138, 139, 140, 141], k ∉ ks) (h65 : ∀ i ∈ [11, 12, 13], D' 65 0 i = D 65 0 i) : Inv D' := by
  obtain ⟨cN, cW, cP, cT, cH, hT, hF, hB, hN, hK, hG, hY, hL⟩ := h
  have e : ∀ k, k ∈ [1, 2, 4, 5, 6, 7, 8, 9, 10, 11, 12, 13, 14, 15, 16, 17, 25, 43, 44, 45, 46, 47, 49, 58, 59, 60, 61, 62, 66, 67, 68, 69, 70, 71, 72, 73, 77, 78, 79, 80, 81, 83, 84, 85, 86, 87, 89, 90, 91, 92, 93, 95, 96, 97, 98, 99, 100, 101, 102, 105, 106, 107, 108, 109, 110, 111, 112, 113, 114, 115, 116, 117, 118, 119, 125, 126, 127, 128, 129, 130, 131, 132, 133, 134, 135, 136, 137, 138, 139, 140, 141] → D' k 0 = D k 0 := hk.at hs
  refine ⟨cN, cW, cP, cT, cH, hT.fr (fun k q => e k ?_) ?_ ?_, hF.fr ?_ ?_ ?_ ?_, hB.fr (fun k q => e k ?_), hN.fr (fun k q => e k ?_), hK.fr (fun k q => e k ?_), hG.fr (fun k q => e k ?_), hY.fr (fun k q => e k ?_) ?_ ?_, hL.fr (fun k q => e k ?_) (h65 11 (by decide)) (h65 12 (by decide)) (h65 13 (by decide)) ?_ ?_ ?_⟩
  all_goals first
    | exact congrFun (e 1 (by decide)) _
    | exact congrFun (e 100 (by decide)) _
    | exact congrFun (e 17 (by decide)) _
    | exact congrFun (e 59 (by decide)) _
    | (revert k; decide)
/-! one call of both -/
def Same (D : pD) (E : pDL) (f g : pD → pDL → Option pRes) : Prop := ∃ v D1 E1 D2 E2, f D E = some (some (.inl v), D1, E1) ∧ g D1 E1 = some (some (.inl v), D2, E2) ∧ Inv D2
theorem Same.ro {D : pD} {E : pDL} {f g : pD → pDL → Option pRes} {v : Int32} (h : Inv D) (h1 : f D E = some (some (.inl v), D, E)) (h2 : g D E = some (some (.inl v), D, E)) : Same D E f g := ⟨v, D, E, D, E, h1, h2, h⟩

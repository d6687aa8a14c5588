/-! THE PURE PART: what the functions answer. First the small ones and the sums of weights. -/
theorem B1s {ρ : Type} (x : Int32) (D : pD) (E : pDL) (f : Int32 → pD → pDL → Option ρ) : pB1 (some (some (.inl x), D, E)) f = f x D E := rfl
theorem B0s {ρ : Type} (D : pD) (E : pDL) (f : pD → pDL → Option ρ) : pB0 (some (none, D, E)) f = f D E := rfl
theorem B2s {ρ : Type} (r : Nat) (D : pD) (E : pDL) (f : pD → pDL → Option ρ) : pB2 (some (some (.inr (.inr (r, 0))), D, E)) r f = f D E := if_pos rfl
theorem iL {a b : Nat} (ha : a < 2147483648) (hb : b < 2147483648) : nI a ≤ nI b ↔ a ≤ b := nI_leI ha hb
theorem iT {a b : Nat} (ha : a < 2147483648) (hb : b < 2147483648) : nI a < nI b ↔ a < b := nI_ltI ha hb
theorem iE {a b : Nat} (ha : a < 2147483648) (hb : b < 2147483648) : nI a = nI b ↔ a = b := nI_eq ha hb
theorem iN {a : Nat} (ha : a < 2147483648) : ¬ nI a < 0 := nI_pos ha
theorem iB {k N : Nat} (h : k < N) (hN : N < 2147483648) : ¬ (nI k < 0 ∨ N ≤ (nI k).toNatClampNeg) := nI_in h hN
theorem iC {k : Nat} (h : k < 2147483648) : (nI k).toNatClampNeg = k := nI_clamp h
theorem iM {k : Nat} (h : k < 2147483648) : ¬ nI k = -1 := by
  intro q
  have := congrArg Int32.toInt q
  rw [nI_toInt h] at this
  have h2 : (-1 : Int32).toInt = -1 := by decide
  omega
/-- numerals -/
theorem nle (n : Nat) {k : Nat} (h : k < n) (hn : n < 2147483648) : ¬ (OfNat.ofNat n : Int32) ≤ nI k := nI_ge h hn
theorem nlt (n : Nat) {k : Nat} (h : k < n) (hn : n < 2147483648) : nI k < (OfNat.ofNat n : Int32) := nI_lt h hn
theorem nlE (n : Nat) {k : Nat} (h : n ≤ k) (hk : k < 2147483648) : (OfNat.ofNat n : Int32) ≤ nI k := nI_le h hk
theorem nnl (n : Nat) {k : Nat} (h : k ≤ n) (hn : n < 2147483648) : ¬ (OfNat.ofNat n : Int32) < nI k := nI_nlt h hn
/-- a sum over places -/
def iS (f : Nat → Int32) : Nat → Int32
  | 0 => 0
  | n + 1 => iS f n + f n
theorem iS_cong {f g : Nat → Int32} : ∀ {n : Nat}, (∀ k, k < n → f k = g k) → iS f n = iS g n
  | 0, _ => rfl
  | n + 1, h => by rw [iS, iS, iS_cong (fun k hk => h k (by omega)), h n (by omega)]
/-! bits (a family of kit/laws/BITS.to-paste) -/
def bt (x : Int32) (i : Nat) : Bool := x.toBitVec.getLsbD i
theorem b_ext {x y : Int32} (h : ∀ i, i < 32 → bt x i = bt y i) : x = y := Int32.toBitVec_inj.mp (BitVec.eq_of_getLsbD_eq (fun i hi => h i hi))
theorem b_or (x y : Int32) (i : Nat) : bt (x ||| y) i = (bt x i || bt y i) := by unfold bt; rw [Int32.toBitVec_or, BitVec.getLsbD_or]
theorem b_and (x y : Int32) (i : Nat) : bt (x &&& y) i = (bt x i && bt y i) := by unfold bt; rw [Int32.toBitVec_and, BitVec.getLsbD_and]
theorem b_xor (x y : Int32) (i : Nat) : bt (x ^^^ y) i = (bt x i ^^ bt y i) := by unfold bt; rw [Int32.toBitVec_xor, BitVec.getLsbD_xor]
theorem b_big {x : Int32} {i : Nat} (h : 32 ≤ i) : bt x i = false := BitVec.getLsbD_of_ge _ _ h
theorem b_255 (i : Nat) : bt 255 i = decide (i < 8) := by
  rcases Nat.lt_or_ge i 32 with h | h
  · exact (by decide +kernel : ∀ i, i < 32 → bt 255 i = decide (i < 8)) i h
  · rw [b_big h, decide_eq_false (by omega)]
theorem b_65535 (i : Nat) : bt 65535 i = decide (i < 16) := by
  rcases Nat.lt_or_ge i 32 with h | h
  · exact (by decide +kernel : ∀ i, i < 32 → bt 65535 i = decide (i < 16)) i h
  · rw [b_big h, decide_eq_false (by omega)]
theorem b_m1 : ∀ i, i < 32 → bt (-1) i = true := by decide +kernel
theorem b_0 (i : Nat) : bt 0 i = false := BitVec.getLsbD_zero
theorem s_l : ∀ n, n < 32 → ((nI n &&& 31).toBitVec.smod 32).toNat = n := by decide +kernel
theorem s_u : ∀ n, n < 32 → (((nI n).toUInt32 &&& Int32.toUInt32 31).toBitVec % 32).toNat = n := by decide +kernel
theorem b_shl (n : Nat) (hn : n < 32) (x : Int32) {i : Nat} (hi : i < 32) : bt (x <<< (nI n &&& 31)) i = (decide (n ≤ i) && bt x (i - n)) := by
  unfold bt
  rw [Int32.toBitVec_shiftLeft]
  show (x.toBitVec <<< ((nI n &&& 31).toBitVec.smod 32).toNat).getLsbD i = _
  rw [s_l n hn, BitVec.getLsbD_shiftLeft]
  rcases Nat.lt_or_ge i n with h | h
  · simp [h, Nat.not_le.mpr h]
  · simp [hi, h, Nat.not_lt.mpr h]
theorem b_ushr (n : Nat) (hn : n < 32) (x : Int32) (i : Nat) : bt ((x.toUInt32 >>> ((nI n).toUInt32 &&& Int32.toUInt32 31)).toInt32) i = bt x (n + i) := by
  show (x.toUInt32 >>> ((nI n).toUInt32 &&& Int32.toUInt32 31)).toBitVec.getLsbD i = x.toUInt32.toBitVec.getLsbD (n + i)
  rw [UInt32.toBitVec_shiftRight]
  show (x.toUInt32.toBitVec >>> (((nI n).toUInt32 &&& Int32.toUInt32 31).toBitVec % 32).toNat).getLsbD i = _
  rw [s_u n hn, BitVec.getLsbD_ushiftRight]
theorem b_sshr (n : Nat) (hn : n < 32) (x : Int32) {i : Nat} (hi : i < 32) : bt (x >>> (nI n &&& 31)) i = if n + i < 32 then bt x (n + i) else bt x 31 := by
  unfold bt
  rw [Int32.toBitVec_shiftRight]
  show (x.toBitVec.sshiftRight ((nI n &&& 31).toBitVec.smod 32).toNat).getLsbD i = _
  rw [s_l n hn, BitVec.getLsbD_sshiftRight, BitVec.msb_eq_getLsbD_last]
  simp [hi]
theorem bt_1 : ∀ i, i < 32 → bt 1 i = decide (i = 0) := by decide +kernel
theorem bitv {x : Int32} {t : Nat} (ht : t < 32) : (x >>> (nI t &&& 31)) &&& 1 = if bt x t = true then 1 else 0 := by
  apply b_ext
  intro i hi
  rw [b_and, b_sshr t ht x hi, bt_1 i hi]
  by_cases h0 : i = 0
  · subst h0
    cases h : bt x t <;> simp [ht, h, b_0]
    decide
  · have h1 : (if bt x t = true then (1 : Int32) else 0) = 1 ∨ (if bt x t = true then (1 : Int32) else 0) = 0 := by split <;> simp
    rcases h1 with h1 | h1
    · rw [h1, bt_1 i hi]
      simp [h0]
    · rw [h1, b_0]
      simp [h0]
theorem bit1 {x : Int32} {t : Nat} (ht : t < 32) : (x >>> (nI t &&& 31)) &&& 1 = 1 ↔ bt x t = true := by
  rw [bitv ht]
  split
  · next h => simp [h]
  · next h => simp [h]
theorem bit0 {x : Int32} {t : Nat} (ht : t < 32) : (x >>> (nI t &&& 31)) &&& 1 = 0 ↔ bt x t = false := by
  rw [bitv ht]
  split
  · next h => simp [h]
  · next h => simpa using h
/-- the weights of a set -/
def wS (w : Nat → Int32) (x : Int32) (n : Nat) : Int32 := iS (fun t => if bt x t = true then w t else 0) n
theorem Mo_weigh_loop (x : Int32) (D : pD) (E : pDL) : ∀ (n k : Nat), k + n = 24 → Mo_weigh_4 x (wS (D 114 0) x k) (nI k) D E = some (some (.inl (wS (D 114 0) x 24)), D, E)
  | 0, k, h => by
    obtain rfl : k = 24 := by omega
    rw [e_Mo_weigh_4, if_pos (by decide)]
  | n + 1, k, h => by
    have hk : k < 24 := by omega
    have e1 : nI k + 1 = nI (k + 1) := nI_1 k
    have ih := Mo_weigh_loop x D E n (k + 1) (by omega)
    rw [e_Mo_weigh_4, if_neg (nle 24 hk (by omega))]
    unfold wS at ih ⊢
    rw [iS] at ih
    by_cases hb : bt x k = true
    · rw [if_pos ((bit1 (by omega)).mpr hb), if_neg (iB (by omega) (by omega)), iC (by omega), e1]
      rw [if_pos hb] at ih
      exact ih
    · rw [if_neg (fun q => hb ((bit1 (by omega)).mp q)), e1]
      rw [if_neg hb] at ih
      exact ih
/-- weigh(set) of the reference -/
theorem Mo_weigh_spec (x : Int32) (D : pD) (E : pDL) : Mo_weigh x D E = some (some (.inl (wS (D 114 0) x 24)), D, E) := by
  rw [e_Mo_weigh]
  exact Mo_weigh_loop x D E 24 0 rfl

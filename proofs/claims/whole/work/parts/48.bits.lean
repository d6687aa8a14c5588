/-! HOW MANY BITS: the JDK's count and the reference's -/
def pc : Nat → Nat → Nat
  | 0, _ => 0
  | k + 1, n => n % 2 + pc k (n / 2)
theorem pc_le : ∀ k n, pc k n ≤ k
  | 0, _ => Nat.le_refl _
  | k + 1, n => by
    have := pc_le k (n / 2)
    rw [pc]
    omega
theorem pc_split (b : Nat) : ∀ a n, pc (a + b) n = pc a n + pc b (n / 2 ^ a)
  | 0, n => by rw [Nat.zero_add, pc, Nat.zero_add, Nat.pow_zero, Nat.div_one]
  | a + 1, n => by rw [show a + 1 + b = (a + b) + 1 by omega, pc, pc, pc_split b a, Nat.div_div_eq_div_mul, Nat.pow_succ, Nat.mul_comm 2, Nat.add_assoc]
theorem land_sp (k a b x y : Nat) (ha : a < 2 ^ k) (hb : b < 2 ^ k) : (2 ^ k * x + a) &&& (2 ^ k * y + b) = 2 ^ k * (x &&& y) + (a &&& b) := by
  apply Nat.eq_of_testBit_eq
  intro j
  rw [Nat.testBit_and, Nat.testBit_two_pow_mul_add _ ha, Nat.testBit_two_pow_mul_add _ hb, Nat.testBit_two_pow_mul_add _ (Nat.and_lt_two_pow _ hb)]
  split
  · rw [Nat.testBit_and]
  · rw [Nat.testBit_and]
def q2 : Nat → Nat → Nat
  | 0, _ => 0
  | c + 1, n => pc 2 n + 4 * q2 c (n / 4)
def q4 : Nat → Nat → Nat
  | 0, _ => 0
  | c + 1, n => pc 4 n + 16 * q4 c (n / 16)
def q8 : Nat → Nat → Nat
  | 0, _ => 0
  | c + 1, n => pc 8 n + 256 * q8 c (n / 256)
def mk1 : Nat → Nat
  | 0 => 0
  | c + 1 => 1 + 4 * mk1 c
def mk2 : Nat → Nat
  | 0 => 0
  | c + 1 => 3 + 16 * mk2 c
def mk4 : Nat → Nat
  | 0 => 0
  | c + 1 => 15 + 256 * mk4 c
theorem pc2 (n : Nat) : pc 2 n = n % 2 + n / 2 % 2 := by
  rw [pc, pc, pc]
  omega
theorem bc1 : ∀ c n, n < 4 ^ c → n = q2 c n + ((n / 2) &&& mk1 c)
  | 0, n, h => by
    rw [Nat.pow_zero] at h
    obtain rfl : n = 0 := by omega
    rfl
  | c + 1, n, h => by
    rw [Nat.pow_succ] at h
    have ih := bc1 c (n / 4) (by omega)
    have e1 : n / 2 = 2 ^ 2 * (n / 4 / 2) + (n / 2 % 4) := by omega
    have e2 : mk1 (c + 1) = 2 ^ 2 * mk1 c + 1 := by rw [mk1]; omega
    rw [e1, e2, land_sp 2 _ _ _ _ (by omega) (by omega), Nat.and_one_is_mod, q2, pc2]
    omega
theorem bc2 : ∀ c n, (q2 (2 * c) n &&& mk2 c) + ((q2 (2 * c) n / 4) &&& mk2 c) = q4 c n
  | 0, n => by rw [Nat.mul_zero, q2, mk2, q4, Nat.and_zero]
  | c + 1, n => by
    have ih := bc2 c (n / 16)
    have h0 := pc_le 2 n
    have h1 := pc_le 2 (n / 4)
    have ed : n / 4 / 4 = n / 16 := by omega
    have e0 : q2 (2 * (c + 1)) n = pc 2 n + 4 * (pc 2 (n / 4) + 4 * q2 (2 * c) (n / 16)) := by
      rw [show 2 * (c + 1) = 2 * c + 1 + 1 by omega, q2, q2, ed]
    have e1 : pc 2 n + 4 * (pc 2 (n / 4) + 4 * q2 (2 * c) (n / 16)) = 2 ^ 4 * q2 (2 * c) (n / 16) + (pc 2 n + 4 * pc 2 (n / 4)) := by omega
    have e2 : (pc 2 n + 4 * (pc 2 (n / 4) + 4 * q2 (2 * c) (n / 16))) / 4 = 2 ^ 4 * (q2 (2 * c) (n / 16) / 4) + (pc 2 (n / 4) + 4 * (q2 (2 * c) (n / 16) % 4)) := by omega
    have e3 : mk2 (c + 1) = 2 ^ 4 * mk2 c + 3 := by rw [mk2]; omega
    have a3 : ∀ x : Nat, x &&& 3 = x % 4 := fun x => Nat.and_two_pow_sub_one_eq_mod x 2
    have es : pc 4 n = pc 2 n + pc 2 (n / 4) := pc_split 2 2 n
    rw [e0, e2, e1, e3, land_sp 4 _ _ _ _ (by omega) (by omega), land_sp 4 _ _ _ _ (by omega) (by omega), a3, a3, q4, es, ← ih]
    omega
theorem q4_mod (c n : Nat) : q4 c n % 16 ≤ 4 := by
  cases c with
  | zero => exact Nat.zero_le _
  | succ c =>
    have := pc_le 4 n
    rw [q4]
    omega
theorem bc3 : ∀ c n, (q4 (2 * c) n + q4 (2 * c) n / 16) &&& mk4 c = q8 c n
  | 0, n => by rw [mk4, q8, Nat.and_zero]
  | c + 1, n => by
    have ih := bc3 c (n / 256)
    have h0 := pc_le 4 n
    have h1 := pc_le 4 (n / 16)
    have h2 := q4_mod (2 * c) (n / 256)
    have ed : n / 16 / 16 = n / 256 := by omega
    have e0 : q4 (2 * (c + 1)) n = pc 4 n + 16 * (pc 4 (n / 16) + 16 * q4 (2 * c) (n / 256)) := by
      rw [show 2 * (c + 1) = 2 * c + 1 + 1 by omega, q4, q4, ed]
    have e1 : pc 4 n + 16 * (pc 4 (n / 16) + 16 * q4 (2 * c) (n / 256)) + (pc 4 n + 16 * (pc 4 (n / 16) + 16 * q4 (2 * c) (n / 256))) / 16 = 2 ^ 8 * (q4 (2 * c) (n / 256) + q4 (2 * c) (n / 256) / 16) + (pc 4 n + pc 4 (n / 16) + 16 * (pc 4 (n / 16) + q4 (2 * c) (n / 256) % 16)) := by omega
    have e3 : mk4 (c + 1) = 2 ^ 8 * mk4 c + 15 := by rw [mk4]; omega
    have a3 : ∀ x : Nat, x &&& 15 = x % 16 := fun x => Nat.and_two_pow_sub_one_eq_mod x 4
    have es : pc 8 n = pc 4 n + pc 4 (n / 16) := pc_split 4 4 n
    rw [e0, e1, e3, land_sp 8 _ _ _ _ (by omega) (by omega), a3, q8, es, ← ih]
    omega
theorem andN {a b : Nat} (ha : a < 4294967296) (hb : b < 4294967296) : nI a &&& nI b = nI (a &&& b) := by
  apply Int32.toBitVec_inj.mp
  apply BitVec.eq_of_toNat_eq
  rw [Int32.toBitVec_and, BitVec.toNat_and, pk_tn ha, pk_tn hb, pk_tn (Nat.and_lt_two_pow (n := 32) _ hb)]
/-- how many bits a set has -/
def bc (x : Int32) : Nat := pc 32 x.toBitVec.toNat
theorem bc_le (x : Int32) : bc x ≤ 32 := pc_le _ _
theorem of_nI (x : Int32) : ∃ n : Nat, n < 4294967296 ∧ x = nI n ∧ x.toBitVec.toNat = n := ⟨x.toBitVec.toNat, x.toBitVec.isLt, by
  apply Int32.toBitVec_inj.mp
  apply BitVec.eq_of_toNat_eq
  rw [pk_tn x.toBitVec.isLt], rfl⟩
theorem fin6 {m a b c d : Nat} (e : m = a + 256 * (b + 256 * (c + 256 * d))) (ha : a ≤ 8) (hb : b ≤ 8) (hc : c ≤ 8) (hd : d ≤ 8) : (m + m / 256 + (m + m / 256) / 65536) % 64 = a + (b + (c + d)) ∧ m < 2147483648 := by
  have h1 : m / 256 = b + 256 * (c + 256 * d) := by omega
  have h2 : (m + m / 256) / 65536 = (c + d) + 256 * d := by omega
  have h3 : m + m / 256 + (m + m / 256) / 65536 = (a + b + c + d) + 64 * (4 * (b + c + d) + 1024 * (c + d) + 262144 * d) := by omega
  constructor
  · rw [h3]
    omega
  · omega
theorem and63 (x : Nat) : x &&& 63 = x % 64 := Nat.and_two_pow_sub_one_eq_mod x 6
theorem j_1 {n q : Nat} (hn : n < 4294967296) (e : n = q + ((n / 2) &&& mk1 16)) : nI n - (((nI n).toUInt32 >>> ((1 : Int32).toUInt32 &&& Int32.toUInt32 31)).toInt32 &&& 1431655765) = nI q := by
  have h2 : n / 2 ^ 1 = n / 2 := by omega
  rw [pk_ushrN hn 1 1 (by decide), show (1431655765 : Int32) = nI (mk1 16) by decide, h2]
  generalize hm : (n / 2) &&& mk1 16 = m at e
  rw [andN (by omega) (by decide), hm, pk_sub (by omega), show n - m = q by omega]
theorem j_2 {m q : Nat} (hn : m < 4294967296) (e : (m &&& mk2 8) + ((m / 4) &&& mk2 8) = q) : (nI m &&& 858993459) + (((nI m).toUInt32 >>> ((2 : Int32).toUInt32 &&& Int32.toUInt32 31)).toInt32 &&& 858993459) = nI q := by
  have h2 : m / 2 ^ 2 = m / 4 := by omega
  rw [pk_ushrN hn 2 2 (by decide), show (858993459 : Int32) = nI (mk2 8) by decide, h2, andN hn (by decide), andN (by omega) (by decide), nI_add, e]
theorem j_3 {m q : Nat} (hn : m < 2147483648) (e : (m + m / 16) &&& mk4 4 = q) : (nI m + ((nI m).toUInt32 >>> ((4 : Int32).toUInt32 &&& Int32.toUInt32 31)).toInt32) &&& 252645135 = nI q := by
  have h2 : m / 2 ^ 4 = m / 16 := by omega
  rw [pk_ushrN (by omega) 4 4 (by decide), show (252645135 : Int32) = nI (mk4 4) by decide, h2, nI_add, andN (by omega) (by decide), e]
theorem j_4 {m : Nat} (hn : m < 2147483648) : nI m + ((nI m).toUInt32 >>> ((8 : Int32).toUInt32 &&& Int32.toUInt32 31)).toInt32 = nI (m + m / 256) := by
  rw [pk_ushrN (by omega) 8 8 (by decide), nI_add]
theorem j_5 {m : Nat} (hn : m < 4294967296) : nI m + ((nI m).toUInt32 >>> ((16 : Int32).toUInt32 &&& Int32.toUInt32 31)).toInt32 = nI (m + m / 65536) := by
  rw [pk_ushrN (by omega) 16 16 (by decide), nI_add]
theorem q4_lt {m : Nat} : (m &&& mk2 8) + ((m / 4) &&& mk2 8) < 2147483648 := by
  have l3 : (m / 4) &&& mk2 8 < 2 ^ 30 := Nat.and_lt_two_pow _ (by decide)
  have l4 : m &&& mk2 8 < 2 ^ 30 := Nat.and_lt_two_pow _ (by decide)
  generalize m &&& mk2 8 = a at *
  generalize (m / 4) &&& mk2 8 = b at *
  omega
theorem pc32 (n : Nat) : pc 32 n = pc 8 n + (pc 8 (n / 256) + (pc 8 (n / 65536) + pc 8 (n / 16777216))) := by
  rw [show 32 = 8 + (8 + (8 + 8)) from rfl, pc_split, pc_split, pc_split, show n / 2 ^ 8 / 2 ^ 8 = n / 65536 by omega, show n / 65536 / 2 ^ 8 = n / 16777216 by omega, show n / 2 ^ 8 = n / 256 by omega]
theorem q8_4 (n : Nat) : q8 4 n = pc 8 n + 256 * (pc 8 (n / 256) + 256 * (pc 8 (n / 65536) + 256 * pc 8 (n / 16777216))) := by
  rw [q8, q8, q8, q8, q8, show n / 256 / 256 = n / 65536 by omega, show n / 65536 / 256 = n / 16777216 by omega, Nat.mul_zero, Nat.add_zero]
theorem bc16 {n : Nat} (hn : n < 4294967296) : n = q2 16 n + ((n / 2) &&& mk1 16) := bc1 16 n hn
theorem Ji_bitCount_spec (x : Int32) (D : pD) (E : pDL) : Ji_bitCount x D E = some (some (.inl (nI (bc x))), D, E) := by
  obtain ⟨n, hn, rfl, e⟩ := of_nI x
  unfold bc
  rw [e, e_Ji_bitCount, j_1 hn (bc16 hn)]
  have hq2 : q2 16 n < 4294967296 := by
    have := bc16 hn
    generalize (n / 2) &&& mk1 16 = a at this
    generalize q2 16 n = b at this
    omega
  have hb2 : (q2 16 n &&& mk2 8) + ((q2 16 n / 4) &&& mk2 8) = q4 8 n := bc2 8 n
  have hq4 : q4 8 n < 2147483648 := by
    rw [← hb2]
    exact q4_lt
  rw [j_2 hq2 hb2, j_3 hq4 (bc3 4 n)]
  have f := fin6 (q8_4 n) (pc_le 8 n) (pc_le 8 (n / 256)) (pc_le 8 (n / 65536)) (pc_le 8 (n / 16777216))
  rw [pc32 n, ← f.1]
  have f2 := f.2
  generalize q8 4 n = m at f2
  rw [j_4 f2, j_5 (by omega), show (63 : Int32) = nI 63 by decide, andN (by omega) (by decide), and63]
theorem pc_clear : ∀ k n, n < 2 ^ k → 0 < n → pc k (n &&& (n - 1)) + 1 = pc k n
  | 0, n, h, h0 => by rw [Nat.pow_zero] at h; omega
  | k + 1, n, h, h0 => by
    rw [Nat.pow_succ] at h
    have em : (n &&& (n - 1)) % 2 = 0 := by
      have := Nat.and_mod_two_eq_one (a := n) (b := n - 1)
      have q : ¬ ((n &&& (n - 1)) % 2 = 1) := fun z => by
        have := this.mp z
        omega
      omega
    rw [pc, pc, em, Nat.and_div_two]
    by_cases ho : n % 2 = 1
    · rw [show (n - 1) / 2 = n / 2 by omega, Nat.and_self]
      omega
    · rw [show (n - 1) / 2 = n / 2 - 1 by omega]
      have := pc_clear k (n / 2) (by omega) (by omega)
      omega
theorem pc_0 : ∀ k, pc k 0 = 0
  | 0 => rfl
  | k + 1 => by rw [pc, pc_0 k]
theorem Mo_bits_loop (D : pD) (E : pDL) {k : Nat} (hk : 2 ^ k ≤ 4294967296) : ∀ (m : Nat) (s n : Nat), n < 2 ^ k → pc k n = m → Mo_bits_4 (nI s) (nI n) D E = some (some (.inl (nI (s + m))), D, E)
  | 0, s, n, hn, h => by
    have h0 : n = 0 := by
      apply Decidable.byContradiction
      intro hz
      have := pc_clear k n hn (by omega)
      omega
    subst h0
    rw [e_Mo_bits_4, if_pos nI_0]
    rfl
  | m + 1, s, n, hn, h => by
    have h0 : n ≠ 0 := by
      intro z
      rw [z, pc_0] at h
      omega
    have hz : ¬ nI n = 0 := by
      intro q
      have := congrArg (fun x : Int32 => x.toBitVec.toNat) q
      rw [pk_tn (by omega)] at this
      exact h0 this
    have hc := pc_clear k n hn (by omega)
    have hl : n &&& (n - 1) < 2 ^ k := Nat.and_lt_two_pow _ (by omega)
    rw [e_Mo_bits_4, if_neg hz, nI_1, show (1 : Int32) = nI 1 from rfl, pk_sub (by omega), andN (by omega) (by omega), Mo_bits_loop D E hk m (s + 1) _ hl (by omega), show s + 1 + m = s + (m + 1) by omega]
theorem Mo_bits_spec (x : Int32) (D : pD) (E : pDL) : Mo_bits x D E = some (some (.inl (nI (bc x))), D, E) := by
  obtain ⟨n, hn, rfl, e⟩ := of_nI x
  unfold bc
  rw [e, e_Mo_bits]
  have : ∀ k, k = 32 → Mo_bits_4 (nI 0) (nI n) D E = some (some (.inl (nI (0 + pc k n))), D, E) := fun k hk => Mo_bits_loop D E (k := k) (by rw [hk]; decide) (pc k n) 0 n (by rw [hk]; exact hn) rfl
  have q := this 32 rfl
  rw [Nat.zero_add] at q
  exact q

/-! THE START: the two worlds are the same behind both constructors -/
theorem mo_start {D : pD} (hx : XF D) (hz : zB 100 (D, E0)) : ∃ D0 D1, Mo_begin (dsl D 100 puModel) E0 = some (none, D0, E0) ∧ Mo_settle D0 E0 = some (none, D1, E0) ∧ zB 143 (D0, E0) ∧ zB 143 (D1, E0) ∧ Inv D1 := by
  obtain ⟨D0, b1, bk, b100, -, -, b102, ⟨t0, t1, t2, t3, t4⟩, -, b114⟩ := M_begin (dsl D 100 puModel) E0
  obtain ⟨D1, s1, sk, s100, ⟨s44, s48, s49, s50⟩, s115, s125, s131, v102, -, -, -, -, -, -, -, -, -, v114⟩ := M_settle D0 E0
  have z0 : zB 143 (D0, E0) := (hz.dl (n' := 143) puModel (by decide) (by decide)).ko bk (by decide) (Nat.le_refl _)
  have z1 : zB 143 (D1, E0) := z0.ko sk (by decide) (Nat.le_refl _)
  refine ⟨D0, D1, b1, s1, z0, z1, ?_⟩
  have low : ∀ k, k < 100 → D1 k = D k := fun k hk => (sk k (fun z => by simp at z; omega)).trans ((bk k (fun z => by simp at z; omega)).trans (dsl_ne (by omega) puModel D))
  have zz : ∀ i, D 100 0 i = 0 := fun i => congrFun ((hz 100 (Nat.le_refl _)).1 0) i
  obtain ⟨x1, ⟨x4, ⟨x50, x51, x52, x53, x54⟩, x6, x7, x10⟩, ⟨x174, x175, x25⟩, xN, x49, x58, x59, x65, x66, x67⟩ := hx
  have in0 : vp_in (0 : Int32) 12 := by
    show ¬ ((0 : Int32) < 0 ∨ 12 ≤ (0 : Int32).toNatClampNeg)
    decide
  refine ⟨0, 0, 0, 0, 0, ⟨0, by omega, ?_, ?_, fun i hi => absurd hi (Nat.not_lt_zero _), fun p hp => ?_⟩, ⟨?_, ?_⟩, ⟨⟨⟨by omega, by omega, by omega, by omega, by omega⟩, ?_, ?_⟩, ?_, ?_, ?_, ⟨fun i hi => absurd hi (Nat.not_lt_zero _), fun i hi => absurd hi (Nat.not_lt_zero _), fun p hp => ?_, fun p hp => absurd hp (Nat.not_lt_zero _), fun p hp => absurd hp (Nat.not_lt_zero _), fun p hp => absurd hp (Nat.not_lt_zero _)⟩⟩, ?_, ?_, ?_, ?_, ?_⟩
  · rw [low 1 (by decide), x1]
    rfl
  · rw [s100 1 (by decide), b100 1 (by decide), dsl_no rfl, zz]
    rfl
  · rw [low 25 (by decide), x25]
    exact in0
  · rw [s100 8 (by decide), b100 8 (by decide), dsl_no rfl, zz, low 17 (by decide), x174]
  · rw [s100 9 (by decide), b100 9 (by decide), dsl_at rfl, low 17 (by decide), x175]
  · rw [low 4 (by decide), x4 0 (by decide), x4 1 (by decide), x4 2 (by decide), x4 3 (by decide), x4 4 (by decide)]
    exact ⟨rfl, rfl, rfl, rfl, rfl⟩
  · rw [v102 0 (by decide), v102 1 (by decide), v102 2 (by decide), v102 3 (by decide), v102 4 (by decide), b102 0 (by decide), b102 1 (by decide), b102 2 (by decide), b102 3 (by decide), b102 4 (by decide)]
    exact ⟨rfl, rfl, rfl, rfl, rfl⟩
  · intro k hk
    rw [low 5 (by decide), v102 (5 + k) (by omega)]
    match k, hk with
    | 0, _ => exact ⟨2, by omega, x50, t0⟩
    | 1, _ => exact ⟨1, by omega, x51, t1⟩
    | 2, _ => exact ⟨5, by omega, x52, t2⟩
    | 3, _ => exact ⟨1, by omega, x53, t3⟩
    | 4, _ => exact ⟨6, by omega, x54, t4⟩
  · intro t ht
    refine ⟨1, by omega, ?_, ?_⟩
    · rw [low 6 (by decide), x6 t ht]
      rfl
    · rw [v114 t ht, b114 t ht]
      rfl
  · intro g hg s hs
    rw [low 7 (by decide), low 6 (by decide)]
    exact x7 g hg s hs
  · rw [low 10 (by decide), x10]
    exact in0
  · intro p hp
    obtain ⟨n1, n2, n3, n4, n5⟩ := xN p hp
    obtain ⟨m1, m2⟩ := s115 p hp
    rw [low 43 (by decide), low 44 (by decide), low 45 (by decide), low 46 (by decide), low 47 (by decide)]
    refine ⟨⟨Or.inl ⟨n1, n2, n3, n4⟩, by rw [m1, n1], fun h => absurd n1 h⟩, by rw [m2, n5], fun _ => ⟨n1, n5⟩⟩
  · have q : ∀ i, i < 4 → D1 125 0 i = D1 49 0 i ∧ D1 49 0 i = 0 := fun i hi => by rw [s125 i hi, low 49 (by decide), x49]; exact ⟨rfl, rfl⟩
    exact ⟨⟨(q 0 (by decide)).1, Or.inl (q 0 (by decide)).2⟩, ⟨(q 1 (by decide)).1, Or.inl (q 1 (by decide)).2⟩, ⟨(q 2 (by decide)).1, Or.inl (q 2 (by decide)).2⟩, ⟨(q 3 (by decide)).1, Or.inl (q 3 (by decide)).2⟩⟩
  · intro p hp w hw v hv
    refine ⟨0, by omega, ?_, ?_⟩
    · rw [low 58 (by decide), x58]
      rfl
    · rw [s131 _ (by omega)]
      rfl
  · refine ⟨0, by omega, ?_, ?_, fun i hi => absurd hi (Nat.not_lt_zero _), fun i j _ hj => absurd hj (Nat.not_lt_zero _)⟩
    · rw [low 59 (by decide), x59]
      rfl
    · rw [s44]
      rfl
  · refine ⟨0, 0, by omega, by omega, ?_, ?_, ?_, ?_, ?_, fun i hi => absurd hi (Nat.not_lt_zero _), fun i hi => absurd hi (Nat.not_lt_zero _)⟩
    · rw [low 65 (by decide), x66]
      rfl
    · rw [s48]
      rfl
    · rw [low 65 (by decide), x67]
      rfl
    · rw [s49]
      rfl
    · rw [s50, low 65 (by decide), x65]

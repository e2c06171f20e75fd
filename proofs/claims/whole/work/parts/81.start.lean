/-! ===== PURE PART: the law's invariant holds at the start ===== -/
theorem p8 {P : Nat → Prop} (h0 : P 0) (h1 : P 1) (h2 : P 2) (h3 : P 3) (h4 : P 4) (h5 : P 5) (h6 : P 6) (h7 : P 7) : ∀ d, d < 8 → P d := by
  intro d hd
  have hb : d = 0 ∨ d = 1 ∨ d = 2 ∨ d = 3 ∨ d = 4 ∨ d = 5 ∨ d = 6 ∨ d = 7 := by omega
  rcases hb with rfl | rfl | rfl | rfl | rfl | rfl | rfl | rfl <;> assumption
theorem p4 {P : Nat → Prop} (h0 : P 0) (h1 : P 1) (h2 : P 2) (h3 : P 3) : ∀ d, d < 4 → P d := by
  intro d hd
  have hb : d = 0 ∨ d = 1 ∨ d = 2 ∨ d = 3 := by omega
  rcases hb with rfl | rfl | rfl | rfl <;> assumption
theorem ft_b : ∀ r, r < 13 → 1 ≤ ft r ∧ ft r ≤ 30 := by decide +kernel
theorem jJ_init {V V1 : Vt} {S S1 : Me} (hA : inA V S) (hB : inB V S V1 S1) : jJ 0 (nV V1 15 1) (nS V1 S1) 1 := by
  obtain ⟨⟨v1, v2, v3⟩, ⟨a6, a7, a8, a9, a10, a11, a12, a13, l7, l8, q6, q7, q8, q9, q10, m0, m1, m2, m3, w0, w1, w2, w3⟩, ⟨r4, r5, s0, s1, s2, s3, s4, s5, s6, s7, h00, h01, h10, h11, h20, h21, h30, h31, h40, h41, h50, h51, h60, h61, h70, h71⟩, ⟨z26, z31, zt⟩, p7, pc, pf⟩ := hA
  obtain ⟨⟨u1, u2, u3⟩, e, ⟨b2, b3, b4, b5, b6, b7, b8, b9, b10, b13, b14, b24, b25, b26, b30, b37⟩, y45, y54, y67, y43, y44⟩ := hB
  rw [nS_e u1]
  obtain ⟨S2, hS2⟩ : ∃ S2, S2 = nZ 72 S1 := ⟨_, rfl⟩
  rw [← hS2]
  have e1 : ∀ b, b < 42 → S2.1 b = S.1 b := fun b hb => by rw [hS2, nZ_1 (by omega)]; exact (e b hb).1
  have e2 : ∀ b, b < 42 → S2.2 b = S.2 b := fun b hb => by rw [hS2, nZ_2 (by omega)]; exact (e b hb).2
  have f1 : ∀ b, b < 72 → S2.1 b = S1.1 b := fun b hb => by rw [hS2, nZ_1 (by omega)]
  obtain ⟨R, hR⟩ : ∃ R, R = rf (0 + 42) S2 := ⟨_, rfl⟩
  have g0 : ∀ k : Nat, (k ≠ 0 ∧ k ≠ 39 ∧ k ≠ 40 ∧ k ≠ 41 ∧ k ≠ 42) → R 0 k = S1.1 42 k := fun k hk => by rw [hR, ← rf0 k hk, f1 _ (by omega)]
  have ga : ∀ a k : Nat, (1 ≤ a ∧ a < 29 ∧ a ≠ 22 ∧ a ≠ 23 ∧ a ≠ 24) → R a k = S1.1 (42 + a) k := fun a k hk => by rw [hR, ← rfa a k hk, f1 _ (by omega)]
  have c2 : R 0 2 = 0 := (g0 2 (by decide)).trans b2
  have c3 : R 0 3 = 4 := (g0 3 (by decide)).trans b3
  have c4 : R 0 4 = 0 := (g0 4 (by decide)).trans b4
  have c5 : R 0 5 = 4 := (g0 5 (by decide)).trans b5
  have c6 : R 0 6 = 1 := (g0 6 (by decide)).trans b6
  have c7 : R 0 7 = 0 := (g0 7 (by decide)).trans b7
  have c8 : R 0 8 = 0 := (g0 8 (by decide)).trans b8
  have c9 : R 0 9 = 0 := (g0 9 (by decide)).trans b9
  have c10 : R 0 10 = 0 := (g0 10 (by decide)).trans b10
  have c13 : R 0 13 = 0 := (g0 13 (by decide)).trans b13
  have c14 : R 0 14 = 0 := (g0 14 (by decide)).trans b14
  have c24 : R 0 24 = -1 := (g0 24 (by decide)).trans b24
  have c25 : R 0 25 = 0 := (g0 25 (by decide)).trans b25
  have c26 : R 0 26 = 0 := (g0 26 (by decide)).trans b26
  have c30 : R 0 30 = 0 := (g0 30 (by decide)).trans b30
  have c37 : R 0 37 = -2 := (g0 37 (by decide)).trans b37
  have d1 : ∀ r, r < 13 → R 1 r = ft r := fun r hr => (ga 1 r (by decide)).trans (y43 r hr)
  have d2 : ∀ r, r < 4 → R 2 r = -2 := fun r hr => (ga 2 r (by decide)).trans (y44 r hr)
  have d3 : ∀ r, R 3 r = 0 := fun r => (ga 3 r (by decide)).trans (y45 r)
  have d12 : ∀ r, R 12 r = 0 := fun r => (ga 12 r (by decide)).trans (y54 r)
  have d25 : ∀ r, R 25 r = 0 := fun r => (ga 25 r (by decide)).trans (y67 r)
  have nr : nR_ R = 0 := by unfold nR_; rw [c26]; rfl
  have na : nA_ R = 0 := by unfold nA_; rw [c13]; rfl
  have nw : ∀ k, ¬ wt R k := fun k h => by have := h.1; rw [c13] at this; omega
  have ex : exV V (nV V1 15 1) := u2.tr (exV.nw _ _ _)
  have past : ∀ a, 2 ≤ a → a ≤ 9 → S2.1 a = S.1 a := fun a a1 a2 => e1 a (by omega)
  have pc' : ∀ r is b : Int, 0 ≤ r → r < 13 → r ≠ 10 → 0 ≤ is → is < 5 → (is < 4 → 0 ≤ b ∧ b < 4) → cF S2 2 r is b = -1000 := by
    rw [cF_c (S := S) (fun a a1 a2 => past a a1 a2)]; exact pc
  have pf' : ∀ j : Int, f4 S2 2 j = -1000 := by
    rw [f4_c (S := S) (fun a a1 a2 => past a a1 a2)]; exact pf
  have hw : ∀ a, a < 4 → S2.1 32 a = -2 := by rw [e1 32 (by decide)]; exact p4 w0 w1 w2 w3
  have hs : ∀ d, d < 8 → S2.2 33 d = some (34 + d) := by rw [e2 33 (by decide)]; exact p8 s0 s1 s2 s3 s4 s5 s6 s7
  have ha : ∀ d, d < 8 → S2.2 (34 + d) 0 = none := p8 (by rw [e2 _ (by decide)]; exact h00) (by rw [e2 _ (by decide)]; exact h10) (by rw [e2 _ (by decide)]; exact h20) (by rw [e2 _ (by decide)]; exact h30) (by rw [e2 _ (by decide)]; exact h40) (by rw [e2 _ (by decide)]; exact h50) (by rw [e2 _ (by decide)]; exact h60) (by rw [e2 _ (by decide)]; exact h70)
  have hb : ∀ d, d < 8 → S2.2 (34 + d) 1 = none := p8 (by rw [e2 _ (by decide)]; exact h01) (by rw [e2 _ (by decide)]; exact h11) (by rw [e2 _ (by decide)]; exact h21) (by rw [e2 _ (by decide)]; exact h31) (by rw [e2 _ (by decide)]; exact h41) (by rw [e2 _ (by decide)]; exact h51) (by rw [e2 _ (by decide)]; exact h61) (by rw [e2 _ (by decide)]; exact h71)
  have g9 : S2.1 28 9 = 0 := by rw [e1 28 (by decide)]; exact q9
  have g10 : S2.1 28 10 = 0 := by rw [e1 28 (by decide)]; exact q10
  refine ⟨fun _ => 0, ?_⟩
  rw [← hR]
  refine ⟨⟨⟨fX11_x ex v2, fX12_x (exV.nw _ _ _) u3, ?_, ?_, ?_⟩, ⟨⟨?_, ?_, ?_, ?_, ?_, ?_, ?_, ?_⟩, ?_⟩, ⟨?_, ?_, ?_, ?_, ?_⟩, ?_, ⟨?_, ?_, ?_⟩, ⟨?_, ?_, ?_⟩, ⟨?_, ?_⟩, ⟨?_, ?_⟩, ?_, ⟨⟨?_, ?_⟩, ⟨?_, ?_⟩, ?_⟩, Or.inl ⟨c24, fun k h => nw k h.1, c25⟩, ⟨⟨?_, ?_, ?_, ?_⟩, ?_, ?_⟩, ?_, ⟨?_, ?_, ?_⟩, ⟨?_, ?_, ?_, ?_, ?_⟩⟩, ?_, ?_⟩
  · show 0 + 73 ≤ V1.1 + 1; omega
  · show (if (0 + 72 : Nat) = V1.1 then 15 else V1.2.1 (0 + 72)) = 15
    rw [if_pos (by omega)]
  · intro d hd
    exact ex.ty (by omega) (by rw [Nat.zero_add]; exact v3 d hd)
  · rw [c6, e1 0 (by decide)]; exact a6
  · rw [c2, e1 0 (by decide)]; exact a7
  · rw [c3, e1 0 (by decide)]; exact a8
  · rw [c7, e1 0 (by decide)]; exact a9
  · rw [c4, e1 0 (by decide)]; exact a10
  · rw [c5, e1 0 (by decide)]; exact a11
  · rw [c9, e1 0 (by decide)]; exact a12
  · rw [c8, e1 0 (by decide)]; exact a13
  · intro r hr
    rw [d1 r hr, e1 (0 + 1) (by decide)]; exact zt r hr
  · intro r is b i1 i2 i3 i4 i5 i6
    rw [nr, c6]
    refine ⟨fun i hi => absurd hi (Nat.not_lt_zero _), Or.inl ?_⟩
    rw [pc' r is b i1 i2 i3 i4 i5 i6]; decide
  · intro j j1 j2
    rw [nr, c6]
    refine ⟨fun i hi => absurd hi (Nat.not_lt_zero _), Or.inl ?_⟩
    rw [pf' j]; decide
  · rw [c10, e1 (0 + 2) (by decide)]; exact p7
  · intro r is b i1 i2 i3 i4 i5 i6
    exact Int.le_of_eq (pc' r is b i1 i2 i3 i4 i5 i6).symm
  · intro j _ _
    exact Int.le_of_eq (pf' j).symm
  · intro i hi
    rw [nr] at hi; exact absurd hi (Nat.not_lt_zero _)
  · rw [c30, e1 (0 + 10) (by decide)]; exact l7
  · rw [c37, e1 (0 + 10) (by decide)]; exact l8
  · intro i hi
    rw [c30] at hi; omega
  · rw [c30]; decide
  · rw [c30]; decide
  · intro i hi
    rw [c30] at hi; omega
  · intro a _
    rw [d3, e1 (0 + 25 + 1) (by decide)]; exact z26 a
  · intro a ha
    rw [d2 a ha, e1 (0 + 25 + 2) (by decide)]
    exact p4 (P := fun a => S.1 27 a = -2) m0 m1 m2 m3 a ha
  · intro a _
    rw [d3]; decide
  · intro b hb
    exact Or.inl (d2 b hb)
  · intro i hi
    rw [c13] at hi; omega
  · rw [c13]; decide
  · rw [c13]; decide
  · rw [c14, na]; rfl
  · rw [c14]; decide
  · intro i hi
    rw [c13] at hi; omega
  · rw [c13, e1 (0 + 28) (by decide)]; exact q6
  · rw [c14, e1 (0 + 28) (by decide)]; exact q7
  · rw [na, e1 (0 + 28) (by decide)]; exact q8
  · show S2.1 28 9 - S2.1 28 10 = R 0 25
    rw [g9, g10, c25]; rfl
  · intro a _
    rw [d12, e1 (0 + 28 + 3) (by decide)]; exact z31 a
  · refine ⟨Or.inl ⟨?_, fun j _ => nw j⟩, fun i hi => absurd hi (nw i), Or.inl ⟨?_, fun j _ => nw j⟩⟩
    · rw [e2 (0 + 28) (by decide)]; exact r4
    · rw [e2 (0 + 28) (by decide)]; exact r5
  · intro a ha
    refine ⟨fun k hk => ?_, Or.inl (hw a ha)⟩
    have := hk.1
    rw [c13] at this; omega
  · intro d hd
    rw [Nat.zero_add, Nat.zero_add]; exact hs d hd
  · intro d hd
    rw [Nat.zero_add]; exact Or.inl ⟨d25 d, ha d hd, hb d hd⟩
  · intro d d' e hd hd' h1 h2
    rw [Nat.zero_add, hb d hd] at h1; cases h1
  · intro r hr
    rw [d1 r hr]; exact ft_b r hr
  · exact Or.inl c2
  · rw [c3]; decide
  · rw [c4]; decide
  · rw [c5]; decide
  · unfold gB
    rw [c6, c7, c8, c9, c10, c26, Nat.zero_add, g9, g10]
    refine ⟨by decide, by decide, by decide, by decide, by decide, by decide, by decide, fun a _ => ?_⟩
    rw [d12]; decide
  · rw [c6, c7]; decide

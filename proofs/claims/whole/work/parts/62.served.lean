/-! ===== PURE PART: a READ or WRITE: both memories behind it ===== -/
theorem uR_a {R : Rm} {a k b : Nat} {x : Int} (h : b ≠ a) : uR R a k x b = R b := funext fun j => by rw [uR_1, if_neg (by omega)]
theorem uR_k {R : Rm} {a k b j : Nat} {x : Int} (h : ¬ (b = a ∧ j = k)) : uR R a k x b j = R b j := by rw [uR_1, if_neg h]
theorem uR_e {R : Rm} {a k : Nat} {x : Int} : uR R a k x a k = x := by rw [uR_1, if_pos ⟨rfl, rfl⟩]
def anR (R : Rm) (x : Nat) : Int := if R 4 x = 0 ∨ R 4 x = 3 then R 3 (R 6 x).toNat else R 11 x
theorem acR_o {R : Rm} {x a k : Nat} (h : a ≠ 3) (h1 : a ≠ 10) (h2 : a ≠ 11) (h3 : a ≠ 12) (h4 : ¬ (a = 0 ∧ k = 14)) : acR R x a k = R a k := by
  unfold acR
  rw [uR_k (by omega), uR_k (by omega), uR_k (by omega)]
  split
  · split
    · rw [uR_k (by omega)]
    · rfl
  · rw [uR_k (by omega)]
    split
    · rw [uR_k (by omega)]
    · rfl
theorem acR_14 {R : Rm} {x : Nat} : acR R x 0 14 = R 0 14 - 1 := by
  unfold acR
  rw [uR_k (by omega), uR_e]
theorem acR_12 {R : Rm} {x : Nat} (k : Nat) : acR R x 12 k = if k = (R 5 x).toNat then R 12 k + 1 else R 12 k := by
  unfold acR
  by_cases z : k = (R 5 x).toNat
  · rw [z, uR_e, if_pos rfl]
  · rw [if_neg z, uR_k (by omega), uR_k (by omega), uR_k (by omega)]
    split
    · split
      · rw [uR_k (by omega)]
      · rfl
    · rw [uR_k (by omega)]
      split
      · rw [uR_k (by omega)]
      · rfl
theorem acR_10 {R : Rm} {x : Nat} (k : Nat) : acR R x 10 k = if k = x then R 0 6 else R 10 k := by
  unfold acR
  by_cases z : k = x
  · rw [z, uR_k (by omega), uR_k (by omega), uR_e, if_pos rfl]
  · rw [if_neg z, uR_k (by omega), uR_k (by omega), uR_k (by omega)]
    split
    · split
      · rw [uR_k (by omega)]
      · rfl
    · rw [uR_k (by omega)]
      split
      · rw [uR_k (by omega)]
      · rfl
theorem acR_11 {R : Rm} {x : Nat} (k : Nat) : acR R x 11 k = if k = x then anR R x else R 11 k := by
  unfold acR anR
  rw [uR_k (by omega), uR_k (by omega), uR_k (by omega)]
  by_cases z0 : R 4 x = 0
  · rw [if_pos z0, if_pos (Or.inl z0), if_pos (Or.inl z0)]
    by_cases z : k = x
    · rw [z, uR_e, if_pos rfl]
    · rw [uR_k (by omega), if_neg z]
  · rw [if_neg z0, uR_k (by omega)]
    by_cases z3 : R 4 x = 0 ∨ R 4 x = 3
    · rw [if_pos z3, if_pos z3]
      by_cases z : k = x
      · rw [z, uR_e, if_pos rfl]
      · rw [uR_k (by omega), if_neg z]
    · rw [if_neg z3, if_neg z3]
      by_cases z : k = x
      · rw [z, if_pos rfl]
      · rw [if_neg z]
theorem acR_3 {R : Rm} {x : Nat} (k : Nat) : acR R x 3 k = if k = (R 6 x).toNat then nbR R x else R 3 k := by
  unfold acR nbR
  rw [uR_k (by omega), uR_k (by omega), uR_k (by omega)]
  by_cases z0 : R 4 x = 0
  · rw [if_pos z0, if_pos (Or.inl z0), if_pos z0, uR_k (by omega)]
    by_cases z : k = (R 6 x).toNat
    · rw [if_pos z, z]
    · rw [if_neg z]
  · rw [if_neg z0, if_neg z0]
    by_cases z : k = (R 6 x).toNat
    · rw [z, uR_e, if_pos rfl]
    · rw [uR_k (by omega), if_neg z]
      split
      · rw [uR_k (by omega)]
      · rfl
theorem fdR_o {R : Rm} {a k : Nat} (h : ¬ (a = 0 ∧ (k = 24 ∨ k = 25))) : fdR R a k = R a k := by
  unfold fdR
  rw [uR_k (by omega), uR_k (by omega)]
theorem fdR_24 {R : Rm} : fdR R 0 24 = foR R := by unfold fdR; rw [uR_e]
theorem fdR_25 {R : Rm} : fdR R 0 25 = if foR R = R 0 24 then R 0 25 else 0 := by unfold fdR; rw [uR_k (by omega), uR_e]
/-- what a READ or WRITE for the x-th makes of R (the log and the ring aside) -/
def sv (R R' : Rm) (x : Nat) : Prop := (∀ a, ¬ a = 0 → ¬ a = 3 → ¬ a = 10 → ¬ a = 11 → ¬ a = 12 → (a < 13 ∨ 21 < a) → R' a = R a) ∧ (∀ k, k ≠ 6 → k ≠ 9 → k ≠ 14 → k ≠ 24 → k ≠ 25 → k ≠ 26 → k ≠ 30 → R' 0 k = R 0 k) ∧ (R' 0 6 = R 0 6 + 1 ∧ R' 0 14 = R 0 14 - 1) ∧ (∀ k, R' 3 k = if k = (R 6 x).toNat then nbR R x else R 3 k) ∧ (∀ k, R' 10 k = if k = x then R 0 6 else R 10 k) ∧ (∀ k, R' 11 k = if k = x then anR R x else R 11 k) ∧ (∀ k, R' 12 k = if k = (R 5 x).toNat then R 12 k + 1 else R 12 k) ∧ (R' 0 24 = foR R' ∧ R' 0 25 = if foR R' = R 0 24 then R 0 25 + 1 else 0)
theorem foN_c {R R' : Rm} (h10 : R' 10 = R 10) (h4 : R' 4 = R 4) : ∀ d i, foN R' i d = foN R i d
  | 0, _ => rfl
  | d + 1, i => by
    unfold foN
    rw [h10, h4, foN_c h10 h4 d (i + 1)]
theorem foR_c {R R' : Rm} (h13 : R' 0 13 = R 0 13) (h10 : R' 10 = R 10) (h4 : R' 4 = R 4) : foR R' = foR R := by
  unfold foR
  rw [nA_R h13, foN_c h10 h4]
theorem sv_go {R : Rm} {cm bb : Int} {x : Nat} (h0 : ¬ cm = 0) (h1 : ¬ cm = 1) (h4 : ¬ cm = 4) (hn : ¬ cm < 0) : sv R (tkF R cm bb (some x)) x ∧ ∀ a, 13 ≤ a → a ≤ 21 → tkF R cm bb (some x) a = wrR R cm bb (x : Int) (plR R cm x) a := by
  have w : ∀ {a k : Nat}, (a = 0 → k ≠ 26 ∧ k ≠ 9 ∧ k ≠ 30) → (a < 13 ∨ 21 < a) → wrR R cm bb (x : Int) (plR R cm x) a k = R a k := fun h1 h2 => wrR_o h1 h2
  have e : tkF R cm bb (some x) = uR (fdR (acR (uR (wrR R cm bb (x : Int) (plR R cm x)) 0 25 (R 0 25 + 1)) x)) 0 6 (R 0 6 + 1) := by
    unfold tkF
    rw [if_neg hn]
    unfold goR
    simp only
    rw [if_neg h4, if_neg h0, if_neg h1]
    rfl
  rw [e]
  generalize hR1 : wrR R cm bb (x : Int) (plR R cm x) = R1 at w ⊢
  have g : ∀ {a k : Nat}, ¬ (a = 0 ∧ k = 25) → uR R1 0 25 (R 0 25 + 1) a k = R1 a k := fun h => uR_k h
  have f : ∀ {a k : Nat}, ¬ (a = 0 ∧ (k = 25 ∨ k = 26 ∨ k = 9 ∨ k = 30)) → (a < 13 ∨ 21 < a) → uR R1 0 25 (R 0 25 + 1) a k = R a k := fun h h2 => by rw [uR_k (by omega), w (by omega) h2]
  have f2 : ∀ {a : Nat}, a ≠ 0 → (a < 13 ∨ 21 < a) → uR R1 0 25 (R 0 25 + 1) a = R a := fun h h2 => funext fun k => f (by omega) h2
  generalize hR2 : uR R1 0 25 (R 0 25 + 1) = R2 at g f f2 ⊢
  have nb : nbR R2 x = nbR R x := by
    unfold nbR
    rw [f2 (a := 4) (by decide) (by decide), f2 (a := 3) (by decide) (by decide), f2 (a := 6) (by decide) (by decide), f2 (a := 7) (by decide) (by decide), f2 (a := 8) (by decide) (by decide)]
  have an : anR R2 x = anR R x := by
    unfold anR
    rw [f2 (a := 4) (by decide) (by decide), f2 (a := 3) (by decide) (by decide), f2 (a := 6) (by decide) (by decide), f2 (a := 11) (by decide) (by decide)]
  have hfo : foR (acR R2 x) = foR (uR (fdR (acR R2 x)) 0 6 (R 0 6 + 1)) := by
    refine (foR_c ?_ ?_ ?_).symm
    · rw [uR_k (by omega), fdR_o (by omega)]
    · funext k; rw [uR_k (by omega), fdR_o (by omega)]
    · funext k; rw [uR_k (by omega), fdR_o (by omega)]
  refine ⟨⟨fun a a0 a3 a10 a11 a12 ha => funext fun k => ?_, fun k k6 k9 k14 k24 k25 k26 k30 => ?_, ⟨?_, ?_⟩, fun k => ?_, fun k => ?_, fun k => ?_, fun k => ?_, ?_, ?_⟩, fun a a1 a2 => funext fun k => ?_⟩
  · rw [uR_k (by omega), fdR_o (by omega), acR_o a3 a10 a11 a12 (by omega), f (by omega) ha]
  · rw [uR_k (by omega), fdR_o (by omega), acR_o (by decide) (by decide) (by decide) (by decide) (by omega), f (by omega) (by omega)]
  · rw [uR_e]
  · rw [uR_k (by omega), fdR_o (by omega), acR_14, f (by omega) (by omega)]
  · rw [uR_k (by omega), fdR_o (by omega), acR_3, nb, f2 (a := 6) (by decide) (by decide), f2 (a := 3) (by decide) (by decide)]
  · rw [uR_k (by omega), fdR_o (by omega), acR_10, f (by omega) (by omega), f2 (a := 10) (by decide) (by decide)]
  · rw [uR_k (by omega), fdR_o (by omega), acR_11, an, f2 (a := 11) (by decide) (by decide)]
  · rw [uR_k (by omega), fdR_o (by omega), acR_12, f2 (a := 5) (by decide) (by decide), f2 (a := 12) (by decide) (by decide)]
  · rw [← hfo, uR_k (by omega), fdR_24]
  · rw [← hfo, uR_k (by omega), fdR_25, acR_o (by decide) (by decide) (by decide) (by decide) (by omega), f (by omega) (by omega), acR_o (by decide) (by decide) (by decide) (by decide) (by omega), ← hR2, uR_e]
  · rw [uR_k (by omega), fdR_o (by omega), acR_o (by omega) (by omega) (by omega) (by omega) (by omega), g (by omega)]
/-- Asks and Queue behind a READ or WRITE -/
theorem sv_q {o : Nat} {V : Vt} {S S' : Me} {c : Nat → Nat} {R R' : Rm} {x : Nat} {n : Int} (hI : jI o V S c R) (hg : gB o S R n) (hx : pw R x) (hv : sv R R' x)
    (f1 : ∀ i : Nat, (i : Int) < R 0 13 → ∀ j, ¬ (i = x ∧ (j = 6 ∨ j = 7)) → S'.1 (c i) j = S.1 (c i) j) (f6 : S'.1 (c x) 6 = R 0 6) (f7 : S'.1 (c x) 7 = if R 4 x = 0 ∨ R 4 x = 3 then R 3 (R 6 x).toNat else -2) (fo : ∀ j, j ≠ 7 → j ≠ 9 → j ≠ 10 → S'.1 (o + 28) j = S.1 (o + 28) j)
    (q7 : S'.1 (o + 28) 7 = S.1 (o + 28) 7 - 1) (q9 : S'.1 (o + 28) 9 = S.1 (o + 28) 9 + 1) (qa : (∀ j, j < x → ¬ pw R j) → S'.1 (o + 28) 10 = S.1 (o + 28) 9 + 1) (qb : ¬ (∀ j, j < x → ¬ pw R j) → S'.1 (o + 28) 10 = S.1 (o + 28) 10) (q3 : ∀ y, S'.1 (o + 28 + 3) y = if y = (R 5 x).toNat then S.1 (o + 28 + 3) y + 1 else S.1 (o + 28 + 3) y) (q4 : ∀ y, S'.1 (o + 28 + 4) y = if y = (R 5 x).toNat then (if S.1 (o + 28 + 4) y < R 0 6 - R 9 x then R 0 6 - R 9 x else S.1 (o + 28 + 4) y) else S.1 (o + 28 + 4) y)
    (h29 : S'.2 (o + 28 + 1) = S.2 (o + 28 + 1)) (hCn : Cn S' (o + 28) c (fun i => wt R i ∧ i ≠ x) (nA_ R)) : cA o V S' c R' ∧ rA R' ∧ rO R' ∧ jQ o S' c R' ∧ jW o S' R' := by
  obtain ⟨hV, hS, hP, hG, hL, hrL, hM, hrM, hA, hrA, hrO, hQ, hW, hH, hs⟩ := hI
  obtain ⟨va, v0, ⟨v6, v14⟩, v3, v10, v11, v12, v24, v25⟩ := hv
  have g6 := hg.1.1
  have r13 := v0 13 (by decide) (by decide) (by decide) (by decide) (by decide) (by decide) (by decide)
  have r4 := va 4 (by decide) (by decide) (by decide) (by decide) (by decide) (by decide)
  have r5 := va 5 (by decide) (by decide) (by decide) (by decide) (by decide) (by decide)
  have r6 := va 6 (by decide) (by decide) (by decide) (by decide) (by decide) (by decide)
  have r7 := va 7 (by decide) (by decide) (by decide) (by decide) (by decide) (by decide)
  have r8 := va 8 (by decide) (by decide) (by decide) (by decide) (by decide) (by decide)
  have r9 := va 9 (by decide) (by decide) (by decide) (by decide) (by decide) (by decide)
  have hn : nA_ R' = nA_ R := nA_R r13
  have hxn := wt_n hrA x hx.1
  have hwt : ∀ i, wt R' i ↔ wt R i ∧ i ≠ x := by
    intro i
    unfold wt
    rw [r13, v10]
    by_cases z : i = x
    · rw [if_pos z]
      exact ⟨fun w => by omega, fun w => absurd z w.2⟩
    · rw [if_neg z]
      exact ⟨fun w => ⟨w, z⟩, fun w => w.1⟩
  have hpw : ∀ i, pw R' i ↔ pw R i ∧ i ≠ x := by
    intro i
    unfold pw
    rw [hwt, r4]
    exact ⟨fun w => ⟨⟨w.1.1, w.2⟩, w.1.2⟩, fun w => ⟨⟨w.1.1, w.2⟩, w.1.2⟩⟩
  have hfw : ∀ i, fw R' i ↔ fw R i := by
    intro i
    unfold fw
    rw [hwt, r4]
    exact ⟨fun w => ⟨w.1.1, w.2⟩, fun w => ⟨⟨w.1, fun z => by rw [z] at w; exact hx.2 w.2⟩, w.2⟩⟩
  obtain ⟨m1, m2, m3, m4, m5, m6, m7, m8, m9⟩ := hrA.2.2 x hx.1.1
  have hxr := pw_r hrA hx
  have hmem := hrM.1 (R 6 x).toNat (by omega)
  have hcn : cnt (wt R') (nA_ R) = cnt (wt R) (nA_ R) - 1 := cnt_del _ hxn hx.1 (fun i _ => hwt i)
  have han : anR R x = if R 4 x = 0 ∨ R 4 x = 3 then R 3 (R 6 x).toNat else -2 := by
    unfold anR
    by_cases z : R 4 x = 0 ∨ R 4 x = 3
    · rw [if_pos z, if_pos z]
    · rw [if_neg z, if_neg z]
      exact m8 (by omega) (by omega)
  refine ⟨fun i hi => ?_, ?_, ?_, ⟨?_, fun a ha => ?_, ?_⟩, fun a ha => ?_⟩
  · rw [r13] at hi
    obtain ⟨g1, g2, g3, g4, g5⟩ := hA i hi
    have e := fun j hj => f1 i hi j hj
    rw [e 0 (by omega), e 1 (by omega), e 2 (by omega), e 3 (by omega), e 4 (by omega), e 5 (by omega), e 11 (by omega), e 12 (by omega), h29, r4, r5, r6, r7, r8, r9, v10, v11]
    refine ⟨g1, g2, ?_, g4, g5⟩
    by_cases z : i = x
    · subst z
      rw [if_pos rfl, if_pos rfl, f6, f7, han]
      exact ⟨rfl, rfl⟩
    · rw [if_neg z, if_neg z, e 6 (by omega), e 7 (by omega)]
      exact g3
  · unfold rA
    rw [r13, hn, v14, hcn, r4, r5, r6, r7, r8, r9, v6]
    refine ⟨hrA.1, ⟨by rw [hrA.2.1.1], by have := hrA.2.1.2; omega⟩, fun i hi => ?_⟩
    obtain ⟨a1, a2, a3, a4, a5, a6, a7, a8, a9⟩ := hrA.2.2 i hi
    rw [v10, v11]
    by_cases z : i = x
    · subst z
      rw [if_pos rfl, if_pos rfl, han]
      refine ⟨a1, a2, a3, a4, a5, ⟨a6.1, by omega⟩, Or.inr ⟨a6.2, by omega⟩, fun z0 z3 => by rw [if_neg (by omega)], fun z0 _ => by rw [if_pos z0]; omega⟩
    · rw [if_neg z, if_neg z]
      exact ⟨a1, a2, a3, a4, a5, ⟨a6.1, by omega⟩, by omega, a8, a9⟩
  · rcases foR_p (R := R') (by rw [r13]; exact hrA.1.1) with ⟨z1, z2⟩ | ⟨k, z1, z2, z3⟩
    · refine Or.inl ⟨by rw [v24, z1], z2, ?_⟩
      rw [v25, z1, if_neg]
      rcases hrO with ⟨-, w, -⟩ | ⟨k, w, -⟩
      · exact absurd hx (w x)
      · omega
    · exact Or.inr ⟨k, by rw [v24, z1], z2, z3⟩
  · rw [fo 6 (by decide) (by decide) (by decide), fo 8 (by decide) (by decide) (by decide), q7, q9, r13, v14, hn, v25]
    refine ⟨hQ.1.1, by rw [hQ.1.2.1], ?_, ?_⟩
    · rw [hQ.1.2.2.1]
      exact cnt_congr _ (fun i _ => (hfw i).symm)
    · have hd := hQ.1.2.2.2
      rcases hrO with ⟨-, w, -⟩ | ⟨k, w1, w2, w3⟩
      · exact absurd hx (w x)
      · by_cases z : ∀ j, j < x → ¬ pw R j
        · have ekx : k = x := by
            rcases Nat.lt_trichotomy k x with y | y | y
            · exact absurd w2 (z k y)
            · exact y
            · exact absurd hx (w3 x y)
          rw [qa z, if_neg]
          · omega
          · rw [w1, ekx]
            rcases foR_p (R := R') (by rw [r13]; exact hrA.1.1) with ⟨z1, -⟩ | ⟨l, z1, z2, -⟩
            · omega
            · have := (hpw l).mp z2
              omega
        · have hkx : k < x := by
            refine Classical.byContradiction fun y => z (fun j hj hp => ?_)
            rcases Nat.lt_or_ge j k with v | v
            · exact w3 j v hp
            · omega
          rw [qb z, if_pos]
          · omega
          · rw [w1]
            have hk' : pw R' k := (hpw k).mpr ⟨w2, by omega⟩
            rcases foR_p (R := R') (by rw [r13]; exact hrA.1.1) with ⟨-, z2⟩ | ⟨l, z1, z2, z3⟩
            · exact absurd hk' (z2 k)
            · have : l = k := by
                rcases Nat.lt_trichotomy l k with y | y | y
                · exact absurd ((hpw l).mp z2).1 (w3 l y)
                · exact y
                · exact absurd hk' (z3 k y)
              rw [z1, this]
  · rw [q3, v12, hQ.2.1 a ha]
  · rw [hn]
    exact ⟨Nx.cg (fun l _ => (hwt l).symm) hCn.1, fun l hl => Nx.cg (fun l' _ => (hwt l').symm) (hCn.2.1 l ((hwt l).mp hl)), by
      rcases hCn.2.2 with ⟨y1, y2⟩ | ⟨l, y1, y2, y3, y4⟩
      · exact Or.inl ⟨y1, fun l h1 h2 => y2 l h1 ((hwt l).mp h2)⟩
      · exact Or.inr ⟨l, y1, y2, (hwt l).mpr y3, fun l' h1 h2 h3 => y4 l' h1 h2 ((hwt l').mp h3)⟩⟩
  · obtain ⟨w1, w2⟩ := hW a ha
    have hwd : ∀ k, wD R' a k ↔ (wD R a k ∧ k ≠ x) ∨ (k = x ∧ R 5 x = (a : Int)) := by
      intro k
      unfold wD
      rw [r13, r5, r4, v10]
      by_cases z : k = x
      · subst z
        rw [if_pos rfl]
        constructor
        · intro y; exact Or.inr ⟨rfl, y.2.1⟩
        · rintro (y | y)
          · exact absurd rfl y.2
          · exact ⟨hx.1.1, y.2, hx.2, by omega⟩
      · rw [if_neg z]
        constructor
        · intro y; exact Or.inl ⟨y, z⟩
        · rintro (y | y)
          · exact y.1
          · exact absurd y.1 z
    have hdv : ∀ k, wD R a k → k ≠ x → R' 10 k - R' 9 k = R 10 k - R 9 k := fun k _ hk => by rw [v10, if_neg hk, r9]
    have hdx : R' 10 x - R' 9 x = R 0 6 - R 9 x := by rw [v10, if_pos rfl, r9]
    rw [q4]
    by_cases za : R 5 x = (a : Int)
    · rw [if_pos (by omega)]
      refine ⟨fun k hk => ?_, ?_⟩
      · rcases (hwd k).mp hk with ⟨y1, y2⟩ | ⟨y1, y2⟩
        · have := w1 k y1
          rw [hdv k y1 y2]
          split <;> omega
        · subst y1
          rw [hdx]
          split <;> omega
      · by_cases zl : S.1 (o + 28 + 4) a < R 0 6 - R 9 x
        · rw [if_pos zl]
          exact Or.inr ⟨x, (hwd x).mpr (Or.inr ⟨rfl, za⟩), hdx⟩
        · rw [if_neg zl]
          rcases w2 with w2 | ⟨k, w2, w3⟩
          · exact Or.inl w2
          · have hkx : k ≠ x := fun y => by rw [y] at w2; exact w2.2.2.2 hx.1.2
            exact Or.inr ⟨k, (hwd k).mpr (Or.inl ⟨w2, hkx⟩), by rw [hdv k w2 hkx]; exact w3⟩
    · rw [if_neg (by omega)]
      refine ⟨fun k hk => ?_, ?_⟩
      · rcases (hwd k).mp hk with ⟨y1, y2⟩ | ⟨y1, y2⟩
        · rw [hdv k y1 y2]; exact w1 k y1
        · exact absurd y2 za
      · rcases w2 with w2 | ⟨k, w2, w3⟩
        · exact Or.inl w2
        · have hkx : k ≠ x := fun y => by rw [y] at w2; exact w2.2.2.2 hx.1.2
          exact Or.inr ⟨k, (hwd k).mpr (Or.inl ⟨w2, hkx⟩), by rw [hdv k w2 hkx]; exact w3⟩

/-! ===== PURE PART: Queue.add; the reference's added ===== -/
theorem jT_add {o z : Nat} {V V' : Vt} {S S' : Me} {c : Nat → Nat} {R R' : Rm} {n kd who a v m : Int} (hT : jT o V S c R n) (ex : exV V V') (hz : z = V.1) (hz' : z < V'.1) (hAz : isA (V'.2.1 z)) (hKz : kT (V'.2.1 z) = kd) (hf : adF R R' kd who a v m) (h14 : R 0 14 < 12) (h13 : R 0 13 < 400)
    (hwho : 0 ≤ who ∧ who < 4) (ha : (kd = 4 ∧ a = -2) ∨ (¬ kd = 4 ∧ 0 ≤ a ∧ a < 1024)) (hv : 0 ≤ v ∧ v ≤ 255 ∧ 0 ≤ m ∧ m ≤ 255) (hm : kd = 1 ∨ kd = 3 → m = 255)
    (f1 : ∀ b, b < V.1 → b ≠ o + 28 → S'.1 b = S.1 b) (fq : ∀ j, j ≠ 6 → j ≠ 7 → j ≠ 8 → S'.1 (o + 28) j = S.1 (o + 28) j) (q6 : S'.1 (o + 28) 6 = S.1 (o + 28) 6 + 1) (q7 : S'.1 (o + 28) 7 = S.1 (o + 28) 7 + 1) (q8 : S'.1 (o + 28) 8 = if kd = 4 then S.1 (o + 28) 8 + 1 else S.1 (o + 28) 8)
    (f2 : ∀ b, b < o + 73 → b ≠ o + 28 → b ≠ o + 28 + 1 → S'.2 b = S.2 b) (f29 : ∀ j, S'.2 (o + 28 + 1) j = if j = nA_ R then some z else S.2 (o + 28 + 1) j)
    (z0 : S'.1 z 0 = R 0 13 ∧ S'.1 z 1 = who ∧ S'.1 z 2 = a ∧ S'.1 z 3 = bk a ∧ S'.1 z 4 = Int.tdiv a 64 ∧ S'.1 z 5 = R 0 6) (z6 : S'.1 z 6 = 0 ∧ S'.1 z 7 = -2) (z11 : kd = 1 ∨ kd = 2 ∨ kd = 3 → S'.1 z 11 = v) (z12 : kd = 2 → S'.1 z 12 = m)
    (hC : Cn S' (o + 28) (fun k => if k = nA_ R then z else c k) (fun i => wt R i ∨ i = nA_ R) (nA_ R + 1)) : jT o V' S' (fun k => if k = nA_ R then z else c k) R' n := by
  obtain ⟨hI, hg, hl⟩ := hT
  obtain ⟨hV, hS, hP, hG, hL, hrL, hM, hrM, hA, hrA, hrO, hQ, hW, hH, hs⟩ := hI
  obtain ⟨ra, r0, ⟨r13, r14⟩, r4, r5, r6, r7, r8, r9, r10, r11, r24, r25⟩ := hf
  obtain ⟨g6, g7, g8, g9, g10, g26, gq, g12⟩ := hg
  have h73 := hV.2.2.1
  have en : (R 0 13).toNat = nA_ R := rfl
  have ei : ((nA_ R : Nat) : Int) = R 0 13 := by have := hrA.1; unfold nA_; omega
  rw [en] at r4 r5 r6 r7 r8 r9 r10 r11
  have nA' : nA_ R' = nA_ R + 1 := by unfold nA_; rw [r13]; have := hrA.1; omega
  have m1 : ∀ b, b < o + 73 → b ≠ o + 28 → S'.1 b = S.1 b := fun b h1 h2 => f1 b (by omega) h2
  have hkb := kT_b (t := V'.2.1 z)
  rw [hKz] at hkb
  have hwt : ∀ i, wt R' i ↔ wt R i ∨ i = nA_ R := by
    intro i
    unfold wt
    rw [r13, r10]
    by_cases e : i = nA_ R
    · rw [if_pos e]
      exact ⟨fun _ => Or.inr e, fun _ => ⟨by omega, rfl⟩⟩
    · rw [if_neg e]
      exact ⟨fun w => Or.inl ⟨by omega, w.2⟩, fun w => w.elim (fun w => ⟨by omega, w.2⟩) (fun w => absurd w e)⟩
  have hwn : ∀ i, wt R i → i ≠ nA_ R := fun i hi e => by have := wt_n hrA i hi; omega
  have hpw : ∀ i, pw R' i ↔ pw R i ∨ (i = nA_ R ∧ ¬ kd = 4) := by
    intro i
    unfold pw
    rw [hwt, r4]
    by_cases e : i = nA_ R
    · rw [if_pos e]
      refine ⟨fun w => Or.inr ⟨e, w.2⟩, fun w => ?_⟩
      rcases w with w | w
      · exact absurd e (hwn i w.1)
      · exact ⟨Or.inr e, w.2⟩
    · rw [if_neg e]
      refine ⟨fun w => Or.inl ⟨w.1.elim id (fun y => absurd y e), w.2⟩, fun w => ?_⟩
      rcases w with w | w
      · exact ⟨Or.inl w.1, w.2⟩
      · exact absurd w.1 e
  have hfw : ∀ i, fw R' i ↔ fw R i ∨ (i = nA_ R ∧ kd = 4) := by
    intro i
    unfold fw
    rw [hwt, r4]
    by_cases e : i = nA_ R
    · rw [if_pos e]
      refine ⟨fun w => Or.inr ⟨e, w.2⟩, fun w => ?_⟩
      rcases w with w | w
      · exact absurd e (hwn i w.1)
      · exact ⟨Or.inr e, w.2⟩
    · rw [if_neg e]
      refine ⟨fun w => Or.inl ⟨w.1.elim id (fun y => absurd y e), w.2⟩, fun w => ?_⟩
      rcases w with w | w
      · exact ⟨Or.inl w.1, w.2⟩
      · exact absurd w.1 e
  have cw : cnt (wt R') (nA_ R + 1) = cnt (wt R) (nA_ R) + 1 := by
    simp only [cnt]
    rw [ic_1 ((hwt _).mpr (Or.inr rfl)), cnt_congr (p := wt R') (p' := wt R) (nA_ R) (fun i hi => by rw [hwt]; exact ⟨fun w => w.elim id (fun y => by omega), Or.inl⟩)]
  have cf : cnt (fw R') (nA_ R + 1) = cnt (fw R) (nA_ R) + (if kd = 4 then 1 else 0) := by
    simp only [cnt]
    rw [cnt_congr (p := fw R') (p' := fw R) (nA_ R) (fun i hi => by rw [hfw]; exact ⟨fun w => w.elim id (fun y => by omega), Or.inl⟩)]
    by_cases e : kd = 4
    · rw [if_pos e, ic_1 ((hfw _).mpr (Or.inr ⟨rfl, e⟩))]
    · rw [if_neg e, ic_0]
      intro w
      rcases (hfw _).mp w with y | y
      · exact hwn _ y.1 rfl
      · exact e y.2
  -- the columns since the oldest stay
  have e25 : R' 0 25 = R 0 25 ∧ rO R' := by
    have hfo := foR_p (R := R') (by rw [r13]; have := hrA.1; omega)
    rcases hrO with ⟨o1, o2, o3⟩ | ⟨k, o1, o2, o3⟩
    · have e : R' 0 25 = 0 := by rw [r25]; split <;> omega
      refine ⟨by rw [e, o3], ?_⟩
      rcases hfo with ⟨y1, y2⟩ | ⟨l, y1, y2, y3⟩
      · exact Or.inl ⟨by rw [r24, y1], y2, e⟩
      · exact Or.inr ⟨l, by rw [r24, y1], y2, y3⟩
    · have hk' : pw R' k := (hpw k).mpr (Or.inl o2)
      have hkn := wt_n hrA k o2.1
      have ef : foR R' = (k : Int) := by
        rcases hfo with ⟨-, y2⟩ | ⟨l, y1, y2, y3⟩
        · exact absurd hk' (y2 k)
        · have : l = k := by
            rcases Nat.lt_trichotomy l k with t | t | t
            · rcases (hpw l).mp y2 with y | y
              · exact absurd y (o3 l t)
              · have := y.1; omega
            · exact t
            · exact absurd hk' (y3 k t)
          rw [y1, this]
      refine ⟨by rw [r25, ef, o1, if_pos rfl], Or.inr ⟨k, by rw [r24, ef], hk', fun j hj w => ?_⟩⟩
      rcases (hpw j).mp w with y | y
      · exact o3 j hj y
      · have := y.1; omega
  refine ⟨⟨⟨fX11_x ex hV.1, fX12_x ex hV.2.1, by have := ex.1; omega, ex.ty (by omega) hV.2.2.2.1, fun d hd => ex.ty (by omega) (hV.2.2.2.2 d hd)⟩, ⟨?_, ?_⟩, jP_R (r0 26 (by decide) (by decide) (by decide) (by decide)) (ra 13 (by decide) (by decide)) (ra 14 (by decide) (by decide)) (ra 15 (by decide) (by decide)) (r0 6 (by decide) (by decide) (by decide) (by decide)) (r0 10 (by decide) (by decide) (by decide) (by decide)) (jP_c (fun b a1 a2 => m1 b (by omega) (by omega)) hP), rG_R (r0 26 (by decide) (by decide) (by decide) (by decide)) (ra 13 (by decide) (by decide)) (ra 14 (by decide) (by decide)) (ra 15 (by decide) (by decide)) (r0 6 (by decide) (by decide) (by decide) (by decide)) hG, jL_R (r0 30 (by decide) (by decide) (by decide) (by decide)) (r0 37 (by decide) (by decide) (by decide) (by decide)) (ra 16 (by decide) (by decide)) (ra 17 (by decide) (by decide)) (ra 18 (by decide) (by decide)) (ra 19 (by decide) (by decide)) (ra 20 (by decide) (by decide)) (ra 21 (by decide) (by decide)) ?_, rL_R (r0 30 (by decide) (by decide) (by decide) (by decide)) (ra 17 (by decide) (by decide)) (ra 18 (by decide) (by decide)) (ra 19 (by decide) (by decide)) hrL, jM_R (ra 3 (by decide) (by decide)) (ra 2 (by decide) (by decide)) ?_, rM_R (ra 3 (by decide) (by decide)) (ra 2 (by decide) (by decide)) hrM, fun i hi => ?_, ?_, e25.2, ⟨?_, ?_, ?_⟩, fun b hb => ?_, ?_, rS_R (ra 1 (by decide) (by decide)) (r0 2 (by decide) (by decide) (by decide) (by decide)) (r0 3 (by decide) (by decide) (by decide) (by decide)) (r0 4 (by decide) (by decide) (by decide) (by decide)) (r0 5 (by decide) (by decide) (by decide) (by decide)) hs⟩, ?_, ?_⟩
  · rw [m1 o (by omega) (by omega), r0 6 (by decide) (by decide) (by decide) (by decide), r0 2 (by decide) (by decide) (by decide) (by decide), r0 3 (by decide) (by decide) (by decide) (by decide), r0 7 (by decide) (by decide) (by decide) (by decide), r0 4 (by decide) (by decide) (by decide) (by decide), r0 5 (by decide) (by decide) (by decide) (by decide), r0 9 (by decide) (by decide) (by decide) (by decide), r0 8 (by decide) (by decide) (by decide) (by decide)]; exact hS.1
  · rw [m1 (o + 1) (by omega) (by omega), ra 1 (by decide) (by decide)]; exact hS.2
  · unfold jL
    rw [m1 (o + 10) (by omega) (by omega), m1 (o + 10 + 1) (by omega) (by omega), m1 (o + 10 + 2) (by omega) (by omega), m1 (o + 10 + 3) (by omega) (by omega), m1 (o + 10 + 4) (by omega) (by omega), m1 (o + 10 + 5) (by omega) (by omega), m1 (o + 10 + 6) (by omega) (by omega)]; exact hL
  · unfold jM
    rw [m1 (o + 25 + 1) (by omega) (by omega), m1 (o + 25 + 2) (by omega) (by omega)]; exact hM
  · rw [f29, r4, r5, r6, r7, r8, r9, r10, r11]
    by_cases e : i = nA_ R
    · simp only [if_pos e]
      refine ⟨⟨trivial, by omega, hz', hAz, hKz⟩, ⟨by rw [z0.1]; omega, z0.2.1, z0.2.2.1, z0.2.2.2.1, z0.2.2.2.2.1, z0.2.2.2.2.2⟩, z6, z11, z12⟩
    · simp only [if_neg e]
      have hi' : (i : Int) < R 0 13 := by rw [r13] at hi; omega
      have g := hA i hi'
      have hc := g.1.2.2.1
      rw [f1 (c i) hc (by have := g.1.2.1; omega), (ex.2 (c i) hc).1]
      exact ⟨⟨g.1.1, g.1.2.1, ex.lt hc, g.1.2.2.2⟩, g.2⟩
  · unfold rA
    rw [r13, r14, nA', cw, r0 6 (by decide) (by decide) (by decide) (by decide)]
    have := hrA.1
    refine ⟨by omega, ⟨by rw [hrA.2.1.1], by omega⟩, fun i hi => ?_⟩
    rw [r4, r5, r6, r7, r8, r9, r10, r11]
    by_cases e : i = nA_ R
    · simp only [if_pos e]
      exact ⟨hkb, hwho, ha, hv, hm, ⟨g6.1, Int.le_refl _⟩, Or.inl trivial, fun _ _ => trivial, fun _ w => absurd trivial w⟩
    · simp only [if_neg e]
      exact hrA.2.2 i (by omega)
  · rw [q6, q7, q8, fq 9 (by decide) (by decide) (by decide), fq 10 (by decide) (by decide) (by decide), r13, r14, nA', cf, e25.1]
    refine ⟨by rw [hQ.1.1], by rw [hQ.1.2.1], ?_, hQ.1.2.2.2⟩
    rw [hQ.1.2.2.1]
    split <;> omega
  · rw [m1 (o + 28 + 3) (by omega) (by omega), ra 12 (by decide) (by decide)]; exact hQ.2.1
  · rw [nA']
    exact ⟨Nx.cg (fun l _ => (hwt l).symm) hC.1, fun l hl => Nx.cg (fun l' _ => (hwt l').symm) (hC.2.1 l ((hwt l).mp hl)), by
      rcases hC.2.2 with ⟨y1, y2⟩ | ⟨l, y1, y2, y3, y4⟩
      · exact Or.inl ⟨y1, fun l h1 h2 => y2 l h1 ((hwt l).mp h2)⟩
      · exact Or.inr ⟨l, y1, y2, (hwt l).mpr y3, fun l' h1 h2 h3 => y4 l' h1 h2 ((hwt l').mp h3)⟩⟩
  · have hwd : ∀ k, wD R' b k ↔ wD R b k := by
      intro k
      unfold wD
      rw [r13, r4, r5, r10]
      by_cases e : k = nA_ R
      · simp only [if_pos e]
        exact ⟨fun w => absurd trivial w.2.2.2, fun w => by have := w.1; omega⟩
      · simp only [if_neg e]
        exact ⟨fun w => ⟨by omega, w.2⟩, fun w => ⟨by omega, w.2⟩⟩
    have hdv : ∀ k, wD R b k → R' 10 k - R' 9 k = R 10 k - R 9 k := fun k hk => by
      have : k ≠ nA_ R := by have := hk.1; omega
      rw [r10, r9, if_neg this, if_neg this]
    obtain ⟨w1, w2⟩ := hW b hb
    rw [m1 (o + 28 + 4) (by omega) (by omega)]
    refine ⟨fun k hk => ?_, ?_⟩
    · have hk := (hwd k).mp hk
      rw [hdv k hk]; exact w1 k hk
    · rcases w2 with w2 | ⟨k, w2, w3⟩
      · exact Or.inl w2
      · exact Or.inr ⟨k, (hwd k).mpr w2, by rw [hdv k w2]; exact w3⟩
  · obtain ⟨y1, y2, y3⟩ := hH
    have ld : ∀ d, d < 8 → S'.2 (o + 34 + d) = S.2 (o + 34 + d) := fun d hd => f2 _ (by omega) (by omega) (by omega)
    refine ⟨by rw [f2 (o + 33) (by omega) (by omega) (by omega)]; exact y1, fun d hd => ?_, fun d d' e hd hd' => by rw [ld d hd, ld d' hd']; exact y3 d d' e hd hd'⟩
    rw [ld d hd, ra 25 (by decide) (by decide), ra 26 (by decide) (by decide), ra 27 (by decide) (by decide), ra 28 (by decide) (by decide), r13]
    rcases y2 d hd with g | ⟨g1, k, g2, g3, g4, g5⟩ | ⟨g1, g2, e, g3, g4, g5, g6, g7, g8, g9, g10⟩
    · exact Or.inl g
    · refine Or.inr (Or.inl ⟨g1, k, g2, by omega, ?_, g5⟩)
      show S.2 (o + 34 + d) 0 = some (if k = nA_ R then z else c k)
      rw [if_neg (by omega)]; exact g4
    · refine Or.inr (Or.inr ⟨g1, g2, e, g3, g4, ex.lt g5, ex.ty g5 g6, by rw [(ex.2 e g5).2.1]; exact g7, g8, by rw [m1 _ (by omega) (by omega)]; exact g9, fun i hi => ?_⟩)
      rw [f1 e g5 (by omega)]
      exact g10 i hi
  · unfold gB
    rw [r0 6 (by decide) (by decide) (by decide) (by decide), r0 7 (by decide) (by decide) (by decide) (by decide), r0 8 (by decide) (by decide) (by decide) (by decide), r0 9 (by decide) (by decide) (by decide) (by decide), r0 10 (by decide) (by decide) (by decide) (by decide), r0 26 (by decide) (by decide) (by decide) (by decide), ra 12 (by decide) (by decide), fq 9 (by decide) (by decide) (by decide), fq 10 (by decide) (by decide) (by decide)]
    exact ⟨g6, g7, g8, g9, g10, g26, gq, g12⟩
  · rw [r0 6 (by decide) (by decide) (by decide) (by decide), r0 7 (by decide) (by decide) (by decide) (by decide)]
    exact hl
theorem p_addC {o z : Nat} {V V' : Vt} {S S1 : Me} {c : Nat → Nat} {R : Rm} {n kd who a v m : Int} {Q : Int → Me → Prop} (hT : jT o V S c R n) (ex : exV V V') (hz : z = V.1) (hz' : z < V'.1) (hAz : isA (V'.2.1 z)) (hKz : kT (V'.2.1 z) = kd)
    (hwho : 0 ≤ who ∧ who < 4) (ha : (kd = 4 ∧ a = -2) ∨ (¬ kd = 4 ∧ 0 ≤ a ∧ a < 1024)) (hv : 0 ≤ v ∧ v ≤ 255 ∧ 0 ≤ m ∧ m ≤ 255) (hm : kd = 1 ∨ kd = 3 → m = 255) (f : ∀ b, b < V.1 → S1.1 b = S.1 b ∧ S1.2 b = S.2 b)
    (z0 : S1.1 z 0 = R 0 13 ∧ S1.1 z 1 = who ∧ S1.1 z 2 = a ∧ S1.1 z 3 = bk a ∧ S1.1 z 4 = Int.tdiv a 64 ∧ S1.1 z 5 = R 0 6) (z6 : S1.1 z 6 = 0 ∧ S1.1 z 7 = -2) (z11 : kd = 1 ∨ kd = 2 ∨ kd = 3 → S1.1 z 11 = v) (z12 : kd = 2 → S1.1 z 12 = m) (z8 : S1.2 z 8 = none)
    (k0 : (R 0 14 = 12 ∨ R 0 13 = 400) → Q (-2) S1) (k1 : ¬ R 0 14 = 12 → ¬ R 0 13 = 400 → ∀ S' c', jT o V' S' c' (adR R kd who a v m) n → (∀ b, o + 42 ≤ b → b < o + 73 → S'.1 b = S1.1 b) → Q (R 0 13) S') : PT_X7_add V' (o + 28) (some z) S1 Q := by
  have hT0 := hT
  obtain ⟨hI, hg, hl⟩ := hT
  obtain ⟨hV, hS, hP, hG, hL, hrL, hM, hrM, hA, hrA, hrO, hQ, hW, hH, hs⟩ := hI
  have h73 := hV.2.2.1
  have m1 : ∀ b, b < o + 73 → S1.1 b = S.1 b := fun b hb => (f b (by omega)).1
  have m2 : ∀ b, b < o + 73 → S1.2 b = S.2 b := fun b hb => (f b (by omega)).2
  have e7 : S1.1 (o + 28) 7 = R 0 14 := by rw [m1 _ (by omega), hQ.1.2.1]
  have e6 : S1.1 (o + 28) 6 = R 0 13 := by rw [m1 _ (by omega), hQ.1.1]
  have e8 : S1.1 (o + 28) 8 = cnt (fw R) (nA_ R) := by rw [m1 _ (by omega), hQ.1.2.2.1]
  have h13 := hrA.1
  have h14 := hrA.2.1
  have cb := cnt_b (wt R) (nA_ R)
  have cbf := cnt_b (fw R) (nA_ R)
  have hn4 : nA_ R ≤ 400 := by unfold nA_; omega
  unfold PT_X7_add B_X7_add_19
  rw [e7, e6]
  refine ⟨fun y => k0 (Or.inl (by omega)), fun y => ⟨fun y2 => ⟨z, rfl, hAz, ?_⟩, fun y2 => k0 (Or.inr (by omega))⟩⟩
  -- behind the count of fences
  have go : ∀ S2 : Me, S2.2 = S1.2 → (∀ b j, ¬ (b = o + 28 ∧ j = 8) → S2.1 b j = S1.1 b j) → S2.1 (o + 28) 8 = (if kd = 4 then S1.1 (o + 28) 8 + 1 else S1.1 (o + 28) 8) → B_X7_add_39 V' (o + 28) (some z) S2 Q := by
    intro S2 g2 g1 g8
    -- behind the link
    have fin : ∀ S3 : Me, S3.1 = S2.1 → (∀ b, b < o + 73 → b ≠ o + 28 → S3.2 b = S1.2 b) → (∀ T : Me, (∀ b j, ¬ (b = o + 28 ∧ j = 5) → b ≠ o + 28 + 1 → T.2 b j = S3.2 b j) → T.2 (o + 28) 5 = some z → Cn T (o + 28) (fun k => if k = nA_ R then z else c k) (fun i => wt R i ∨ i = nA_ R) (nA_ R + 1)) → B_X7_add_61 V' (o + 28) (some z) S3 Q := by
      intro S3 w1 w2 w3 T1 u1
      have t7 : T1.1 (o + 28) 7 = R 0 14 := by rw [u1, sP_1, w1, g1 _ _ (by omega), e7]
      rw [t7]
      refine ⟨by unfold rng; omega, fun T4 u4 => ?_⟩
      have t6 : T4.1 (o + 28) 6 = R 0 13 := by rw [u4, sI_ne (by omega), u1, sP_1, w1, g1 _ _ (by omega), e6]
      rw [t6]
      refine ⟨by omega, z, rfl, hAz, fun T8 u8 => ?_⟩
      have s6 : T8.1 (o + 28) 6 = R 0 13 := by rw [u8, sP_1, t6]
      rw [s6]
      refine ⟨by unfold rng; omega, fun T11 u11 => ?_⟩
      have i1 : ∀ b j, ¬ (b = o + 28 ∧ (j = 6 ∨ j = 7)) → T11.1 b j = S2.1 b j := fun b j h => by rw [u11, sI_ne (by omega), u8, sP_1, u4, sI_ne (by omega), u1, sP_1, w1]
      have i1' : ∀ b, b ≠ o + 28 → T11.1 b = S1.1 b := fun b hb => funext fun j => by rw [i1 b j (by omega), g1 b j (by omega)]
      have v0 : T11.1 z 0 = R 0 13 := by rw [i1' z (by omega)]; exact z0.1
      have i2 : ∀ b j, ¬ (b = o + 28 ∧ j = 5) → b ≠ o + 28 + 1 → T11.2 b j = S3.2 b j := fun b j h1 h2 => by rw [u11, sI_2, u8, sP_2, if_neg (by omega), u4, sI_2, u1, sP_2, if_neg (by omega)]
      have i25 : T11.2 (o + 28) 5 = some z := by rw [u11, sI_2, u8, sP_2, if_neg (by omega), u4, sI_2, u1, sP_2, if_pos ⟨rfl, rfl⟩]
      rw [v0]
      refine k1 (by omega) (by omega) T11 _ (jT_add hT0 ex hz hz' hAz hKz adF_adR (by omega) (by omega) hwho ha hv hm (fun b b1 b2 => by rw [i1' b b2, (f b b1).1]) (fun j h1 h2 h3 => by rw [i1 _ j (by omega), g1 _ j (by omega), m1 _ (by omega)]) ?_ ?_ ?_ (fun b b1 b2 b3 => ?_) (fun j => ?_) (by rw [i1' z (by omega)]; exact z0) (by rw [i1' z (by omega)]; exact z6) (by rw [i1' z (by omega)]; exact z11) (by rw [i1' z (by omega)]; exact z12) (w3 T11 i2 i25)) (fun b b1 b2 => by rw [i1' b (by omega)])
      · rw [u11, sI_eq, hQ.1.1]
      · rw [u11, sI_ne (by omega), u8, sP_1, u4, sI_eq, hQ.1.2.1]
      · rw [i1 _ 8 (by omega), g8, e8, hQ.1.2.2.1]
      · funext j
        rw [i2 b j (by omega) b3, w2 b b1 b2, m2 b b1]
      · rw [u11, sI_2, u8, sP_2]
        have en : Int.toNat (R 0 13) = nA_ R := rfl
        rw [en]
        by_cases e : j = nA_ R
        · rw [if_pos ⟨rfl, e⟩, if_pos e]
        · rw [if_neg (fun w => e w.2), if_neg e, u4, sI_2, u1, sP_2, if_neg (by omega), w2 _ (by omega) (by omega), m2 _ (by omega)]
    have cz : ∀ i, wt R i → c i ≠ z := fun i hi e => by have := (hA i hi.1).1.2.2.1; omega
    have hu : ∀ i, wt R i → c i ≠ o + 28 := fun i hi e => by have := (hA i hi.1).1.2.1; omega
    have hu1 : ∀ i, wt R i → c i ≠ o + 28 + 1 := fun i hi e => by have := (hA i hi.1).1.2.1; omega
    have s1c : ∀ i, wt R i → S1.2 (c i) = S.2 (c i) := fun i hi => (f _ (hA i hi.1).1.2.2.1).2
    have e25 : S2.2 (o + 28) 5 = S.2 (o + 28) 5 := by rw [g2, m2 _ (by omega)]
    unfold B_X7_add_39
    rw [e25]
    refine ⟨fun h5 => ?_, fun h5 S3 e3 => ?_⟩
    · obtain ⟨y, ey⟩ : ∃ y, S.2 (o + 28) 5 = some y := by
        cases hq : S.2 (o + 28) 5 with
        | none => exact absurd hq h5
        | some y => exact ⟨y, rfl⟩
      obtain ⟨l, l0, l1, l2, l3⟩ : ∃ l, y = c l ∧ l < nA_ R ∧ wt R l ∧ ∀ j', l < j' → j' < nA_ R → ¬ wt R j' := by
        rcases hQ.2.2.2.2 with ⟨q, -⟩ | ⟨l, q, q1, q2, q3⟩
        · rw [q] at ey; cases ey
        · exact ⟨l, Option.some.inj (ey.symm.trans q), q1, q2, q3⟩
      have gl := (hA l l2.1).1
      refine ⟨y, ey, by rw [l0]; exact ex.ak gl.2.2.1 gl.2.2.2.1, fun S3 e3 => fin S3 (by rw [e3, sP_1]) (fun b b1 b2 => by
        funext j
        rw [e3, sP_2, if_neg (by have := gl.2.1; omega), g2]) (fun T t1 t2 => ?_)⟩
      refine Cn_add hQ.2.2 (fun i hi => wt_n hrA i hi) (fun i => Iff.rfl) (fun i hi => if_neg (by omega)) (if_pos rfl) ?_ t2 (fun q => absurd q h5) (fun y' ey' => ?_)
      · rw [t1 z 8 (by omega) (by omega), e3, sP_2, if_neg (fun w => cz l l2 (by rw [← l0, w.1])), g2, z8]
      · have eyy : y' = y := Option.some.inj (ey'.symm.trans ey)
        subst eyy
        refine ⟨?_, ?_, fun i hi hne => ?_⟩
        · rw [t1 _ 4 (by omega) (by omega), e3, sP_2, if_neg (by omega), g2, m2 _ (by omega)]
        · rw [t1 _ 8 (by omega) (by have := hu1 l l2; rw [l0]; exact this), e3, sP_2, if_pos ⟨rfl, rfl⟩]
        · rw [t1 _ 8 (by omega) (hu1 i hi), e3, sP_2, if_neg (fun w => hne w.1), g2, s1c i hi]
    · refine fin S3 (by rw [e3, sP_1]) (fun b b1 b2 => by
        funext j
        rw [e3, sP_2, if_neg (by omega), g2]) (fun T t1 t2 => ?_)
      refine Cn_add hQ.2.2 (fun i hi => wt_n hrA i hi) (fun i => Iff.rfl) (fun i hi => if_neg (by omega)) (if_pos rfl) ?_ t2 (fun _ => ⟨?_, fun i hi => ?_⟩) (fun y' ey' => by rw [h5] at ey'; cases ey')
      · rw [t1 z 8 (by omega) (by omega), e3, sP_2, if_neg (by omega), g2, z8]
      · rw [t1 _ 4 (by omega) (by omega), e3, sP_2, if_pos ⟨rfl, rfl⟩]
      · rw [t1 _ 8 (by omega) (hu1 i hi), e3, sP_2, if_neg (fun w => hu i hi w.1), g2, s1c i hi]
  refine pv_isFence hAz (fun y4 => ⟨fun e => absurd e (by decide), fun _ => ⟨by rw [e8]; unfold rng; omega, fun S28 e28 => go S28 (by rw [e28, sI_2]) (fun b j h => by rw [e28, sI_ne (by omega)]) (by rw [e28, sI_eq, if_pos (by rw [← hKz]; exact y4)])⟩⟩) (fun y4 => ⟨fun _ => go S1 rfl (fun _ _ _ => rfl) (by rw [if_neg (by rw [← hKz]; exact y4)]), fun e => absurd rfl e⟩)
theorem p_addedR {V : Vt} {q : Nat} {S : Me} {Q : Int → Me → Prop} {kd who a v m : Int} (hX : fX12 V q) (hr : rA (rf q S)) (k0 : (rf q S 0 14 = 12 ∨ rf q S 0 13 = 400) → Q (-2) S) (k1 : ¬ rf q S 0 14 = 12 → ¬ rf q S 0 13 = 400 → ∀ S', fR q S S' → rf q S' = adR (rf q S) kd who a v m → Q (rf q S 0 13) S') : PT_X12_added V q kd who a v m S Q := by
  have h13 := hr.1
  have h14 := hr.2.1
  have cb := cnt_b (wt (rf q S)) (nA_ (rf q S))
  unfold PT_X12_added B_X12_added_19
  rw [rf0 14 (by decide), rf0 13 (by decide)]
  refine ⟨fun y => k0 (Or.inl y), fun y => ⟨fun y2 => ⟨by omega, fun S7 e7 => ?_⟩, fun y2 => k0 (Or.inr y2)⟩⟩
  have f7 : fK q S S7 := by rw [e7]; exact fK_s fK_r (by decide) (by decide)
  have r7 : rf q S7 = uR (rf q S) 4 (rf q S 0 13).toNat kd := by rw [e7, rf_w (by unfold scr; omega)]
  have v7 : S7.1 q 13 = rf q S 0 13 := by rw [rf0 13 (by decide), r7, uR_k (by omega)]
  rw [v7]
  refine ⟨by omega, fun S10 e10 => ?_⟩
  have f10 : fK q S S10 := by rw [e10]; exact fK_s f7 (by decide) (by decide)
  have r10 : rf q S10 = uR (rf q S7) 5 (rf q S 0 13).toNat who := by rw [e10, rf_w (by unfold scr; omega)]
  have v10 : S10.1 q 13 = rf q S 0 13 := by rw [rf0 13 (by decide), r10, uR_k (by omega), ← rf0 13 (by decide), v7]
  rw [v10]
  refine ⟨by omega, fun S13 e13 => ?_⟩
  have f13 : fK q S S13 := by rw [e13]; exact fK_s f10 (by decide) (by decide)
  have r13 : rf q S13 = uR (rf q S10) 6 (rf q S 0 13).toNat a := by rw [e13, rf_w (by unfold scr; omega)]
  have v13 : S13.1 q 13 = rf q S 0 13 := by rw [rf0 13 (by decide), r13, uR_k (by omega), ← rf0 13 (by decide), v10]
  rw [v13]
  refine ⟨by omega, fun S16 e16 => ?_⟩
  have f16 : fK q S S16 := by rw [e16]; exact fK_s f13 (by decide) (by decide)
  have r16 : rf q S16 = uR (rf q S13) 7 (rf q S 0 13).toNat v := by rw [e16, rf_w (by unfold scr; omega)]
  have v16 : S16.1 q 13 = rf q S 0 13 := by rw [rf0 13 (by decide), r16, uR_k (by omega), ← rf0 13 (by decide), v13]
  rw [v16]
  refine ⟨by omega, fun S19 e19 => ?_⟩
  have f19 : fK q S S19 := by rw [e19]; exact fK_s f16 (by decide) (by decide)
  have r19 : rf q S19 = uR (rf q S16) 8 (rf q S 0 13).toNat m := by rw [e19, rf_w (by unfold scr; omega)]
  have v19 : S19.1 q 13 = rf q S 0 13 := by rw [rf0 13 (by decide), r19, uR_k (by omega), ← rf0 13 (by decide), v16]
  have w19 : S19.1 q 6 = rf q S 0 6 := by rw [rf0 6 (by decide), r19, r16, r13, r10, r7, uR_k (by omega), uR_k (by omega), uR_k (by omega), uR_k (by omega), uR_k (by omega)]
  rw [v19, w19]
  refine ⟨by omega, fun S23 e23 => ?_⟩
  have f23 : fK q S S23 := by rw [e23]; exact fK_s f19 (by decide) (by decide)
  have r23 : rf q S23 = uR (rf q S19) 9 (rf q S 0 13).toNat (rf q S 0 6) := by rw [e23, rf_w (by unfold scr; omega)]
  have v23 : S23.1 q 13 = rf q S 0 13 := by rw [rf0 13 (by decide), r23, uR_k (by omega), ← rf0 13 (by decide), v19]
  rw [v23]
  refine ⟨by omega, fun S26 e26 => ?_⟩
  have f26 : fK q S S26 := by rw [e26]; exact fK_s f23 (by decide) (by decide)
  have r26 : rf q S26 = uR (rf q S23) 10 (rf q S 0 13).toNat 0 := by rw [e26, rf_w (by unfold scr; omega)]
  have v26 : S26.1 q 13 = rf q S 0 13 := by rw [rf0 13 (by decide), r26, uR_k (by omega), ← rf0 13 (by decide), v23]
  rw [v26]
  refine ⟨by omega, fun S29 e29 => ?_⟩
  have f29 : fK q S S29 := by rw [e29]; exact fK_s f26 (by decide) (by decide)
  have r29 : rf q S29 = uR (rf q S26) 11 (rf q S 0 13).toNat (-2) := by rw [e29, rf_w (by unfold scr; omega)]
  have v29 : S29.1 q 13 = rf q S 0 13 := by rw [rf0 13 (by decide), r29, uR_k (by omega), ← rf0 13 (by decide), v26]
  rw [v29]
  refine ⟨by unfold rng; omega, fun S32 e32 => ?_⟩
  have f32 : fK q S S32 := by rw [e32]; exact fK_0 f29 (by decide)
  have r32 : rf q S32 = uR (rf q S29) 0 13 (rf q S 0 13 + 1) := by rw [e32, rf_w0 (by unfold scr; omega)]
  have v32 : S32.1 q 14 = rf q S 0 14 := by rw [rf0 14 (by decide), r32, r29, r26, r23, r19, r16, r13, r10, r7, uR_k (by omega), uR_k (by omega), uR_k (by omega), uR_k (by omega), uR_k (by omega), uR_k (by omega), uR_k (by omega), uR_k (by omega), uR_k (by omega)]
  rw [v32]
  refine ⟨by unfold rng; omega, fun S35 e35 => ?_⟩
  have f35 : fK q S S35 := by rw [e35]; exact fK_0 f32 (by decide)
  have r35 : rf q S35 = uR (rf q S32) 0 14 (rf q S 0 14 + 1) := by rw [e35, rf_w0 (by unfold scr; omega)]
  have v35 : rf q S35 0 13 = rf q S 0 13 + 1 := by rw [r35, uR_k (by omega), r32, uR_e]
  refine p_findOldest hX (by rw [v35]; omega) (fun S36 g36 e36 => ?_)
  have v36 : S36.1 q 13 = rf q S 0 13 + 1 := by rw [g36.2 q 13 (by omega), rf0 13 (by decide), v35]
  rw [v36]
  refine ⟨by unfold rng; omega, ?_⟩
  rw [show rf q S 0 13 + 1 - 1 = rf q S 0 13 by omega]
  refine k1 y y2 S36 (fR_tr f35.1 ⟨g36.1, fun b hb => funext fun j => g36.2 b j (by omega)⟩) ?_
  rw [e36, r35, r32, r29, r26, r23, r19, r16, r13, r10, r7]
  rfl

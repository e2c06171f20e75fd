/-! ===== PURE PART: pair beside ===== -/
def bsD (R : Rm) (i : Nat) : Prop := ¬ R 10 i = 0 ∧ ¬ R 4 i = 4
/-- the byte behind the i-th, done on a plain memory -/
def bsN (R : Rm) (i : Nat) (x : Int) : Int := if R 4 i = 0 then x else bOr (bAnd x (bXor (R 8 i) (-1))) (bAnd (R 7 i) (R 8 i))
/-- the plain memory behind the first i -/
def bsP (R : Rm) : Nat → Nat → Int
  | 0, _ => 0
  | i + 1, a => if (¬ R 10 i = 0 ∧ ¬ R 4 i = 4) ∧ a = (R 6 i).toNat then bsN R i (bsP R i a) else bsP R i a
def bsA (R : Rm) (i : Nat) : Prop := ∀ k, k < i → bsD R k → R 11 k = -2 ∨ R 11 k = bsP R k (R 6 k).toNat
def bsM (R : Rm) (i : Nat) : Prop := ∀ k, k < i → ¬ R 4 k = 4 → bsP R (nA_ R) (R 6 k).toNat = R 3 (R 6 k).toNat
theorem bsP_b {R : Rm} (hr : rA R) : ∀ i : Nat, (i : Int) ≤ R 0 13 → ∀ a, 0 ≤ bsP R i a ∧ bsP R i a ≤ 255
  | 0, _, a => by simp [bsP]
  | i + 1, h, a => by
    have ih := bsP_b hr i (by omega) a
    unfold bsP
    split
    · unfold bsN
      split
      · exact ih
      · have m4 := (hr.2.2 i (by omega)).2.2.2.1
        exact by_m ih.1 ih.2 m4.1 m4.2.1
    · exact ih
theorem bsP_s {R : Rm} {i a : Nat} : bsP R (i + 1) a = if (¬ R 10 i = 0 ∧ ¬ R 4 i = 4) ∧ a = (R 6 i).toNat then bsN R i (bsP R i a) else bsP R i a := rfl
theorem pl_r {R : Rm} (hr : rA R) {i : Nat} (hi : (i : Int) < R 0 13) (h4 : ¬ R 4 i = 4) : 0 ≤ R 6 i ∧ R 6 i < 1024 := by
  obtain ⟨-, -, r6, -⟩ := hr.2.2 i hi
  rcases r6 with z | z
  · exact absurd z.1 h4
  · exact z.2
theorem p_besideC {o : Nat} {V : Vt} {S : Me} {c : Nat → Nat} {R : Rm} {Q : Int → Me → Prop} (hI : jI o V S c R) (k1 : bsA R (nA_ R) → bsM R (nA_ R) → ∀ S', S'.2 = S.2 → (∀ b, b ≠ o + 28 + 2 → S'.1 b = S.1 b) → Q 1 S') (k0 : ¬ (bsA R (nA_ R) ∧ bsM R (nA_ R)) → ∀ S', S'.2 = S.2 → (∀ b, b ≠ o + 28 + 2 → S'.1 b = S.1 b) → Q 0 S') : PT_X7_isAsIfInTurn V (o + 28) (some (o + 25 + 1)) S Q := by
  obtain ⟨hV, hS, hP, hG, hL, hrL, hM, hrM, hA, hrA, hrO, hQ, hW, hH, hs⟩ := hI
  have h13 := hrA.1
  have hX7 := hV.1.2.2.2.2.2.1.2
  have hX4 := hV.1.2.2.2.2.1.2
  have ei : ((nA_ R : Nat) : Int) = R 0 13 := by unfold nA_; omega
  unfold PT_X7_isAsIfInTurn
  refine p_fill hX7.2.2.1.2.2.1 hX7.2.2.1.2.2.2 (by decide) (fun S0 a1 a2 a3 => ?_)
  -- what stays
  have st : ∀ S1 : Me, S1.2 = S.2 → (∀ b, b ≠ o + 28 + 2 → S1.1 b = S.1 b) → S1.1 (o + 28) 6 = R 0 13 ∧ ∀ i : Nat, (i : Int) < R 0 13 → S1.2 (o + 28 + 1) i = some (c i) ∧ S1.1 (c i) = S.1 (c i) := by
    intro S1 g1 g2
    refine ⟨by rw [g2 _ (by omega), hQ.1.1], fun i hi => ⟨by rw [g1]; exact (hA i hi).1.1, g2 _ (by have := (hA i hi).1.2.1; omega)⟩⟩
  have l2 : ∀ (m i : Nat) (S1 : Me), i + m = nA_ R → S1.2 = S.2 → (∀ b, b ≠ o + 28 + 2 → S1.1 b = S.1 b) → (∀ a, a < 1024 → S1.1 (o + 28 + 2) a = bsP R (nA_ R) a) → bsA R (nA_ R) → bsM R i → B_X7_isAsIfInTurn_92 V (o + 28) (some (o + 25 + 1)) Q (m + 1) (i : Int) S1 := by
    intro m
    induction m with
    | zero =>
      intro i S1 e g1 g2 g3 gA gM
      unfold B_X7_isAsIfInTurn_92
      rw [(st S1 g1 g2).1]
      exact ⟨fun _ => k1 gA (by rw [← show i = nA_ R by omega]; exact gM) S1 g1 g2, fun w => by omega⟩
    | succ m ih =>
      intro i S1 e g1 g2 g3 gA gM
      have hi : (i : Int) < R 0 13 := by omega
      obtain ⟨s1, s2⟩ := (st S1 g1 g2).2 i hi
      obtain ⟨⟨b1, b2, b3, b4, b5⟩, ⟨-, -, b6, -⟩, -⟩ := hA i hi
      unfold B_X7_isAsIfInTurn_92
      rw [(st S1 g1 g2).1, tn, s1]
      have nx : bsM R (i + 1) → B_X7_isAsIfInTurn_138 V (o + 28) (some (o + 25 + 1)) (B_X7_isAsIfInTurn_92 V (o + 28) (some (o + 25 + 1)) Q (m + 1)) (i : Int) S1 Q := fun w => ⟨by unfold rng; omega, by have := ih (i + 1) S1 (by omega) g1 g2 g3 gA w; exact this⟩
      refine ⟨fun w => by omega, fun _ => ⟨by omega, fun w => (by cases w), fun _ => ⟨c i, rfl, b4, pv_isFence b4 (fun f4 => ⟨fun _ => nx (fun k hk h4 => ?_), fun w => absurd w (by decide)⟩) (fun f4 => ⟨fun w => absurd rfl w, fun _ => ?_⟩)⟩⟩⟩
      · by_cases ek : k = i
        · rw [ek] at h4; exact absurd (by rw [← b5]; exact f4) h4
        · exact gM k (by omega) h4
      · rw [b5] at f4
        have hr := pl_r hrA hi f4
        rw [s2, b6, g3 _ (by omega)]
        have ev : S1.1 (o + 25 + 1) (R 6 i).toNat = R 3 (R 6 i).toNat := by rw [g2 _ (by omega), hM.1 _ (by omega)]
        refine ⟨hr, o + 25 + 1, rfl, hX4.2.1.2.2.1, ⟨hr.1, by rw [hX4.2.1.2.2.2]; omega⟩, fun w => nx (fun k hk h4 => ?_), fun w => k0 (fun g => ?_) S1 g1 g2⟩
        · by_cases ek : k = i
          · rw [ek]; exact w.trans ev
          · exact gM k (by omega) h4
        · exact w ((g.2 i (by omega) f4).trans ev.symm)
  have l1 : ∀ (m i : Nat) (S1 : Me), i + m = nA_ R → S1.2 = S.2 → (∀ b, b ≠ o + 28 + 2 → S1.1 b = S.1 b) → (∀ a, a < 1024 → S1.1 (o + 28 + 2) a = bsP R i a) → bsA R i → B_X7_isAsIfInTurn_10 V (o + 28) (some (o + 25 + 1)) Q (m + 1) (i : Int) S1 := by
    intro m
    induction m with
    | zero =>
      intro i S1 e g1 g2 g3 gA
      unfold B_X7_isAsIfInTurn_10
      rw [(st S1 g1 g2).1]
      have ein : i = nA_ R := by omega
      rw [ein] at g3 gA
      exact ⟨fun _ => ⟨nA_ R + 1, l2 (nA_ R) 0 S1 (by omega) g1 g2 g3 gA (fun k hk => by omega)⟩, fun w => by omega⟩
    | succ m ih =>
      intro i S1 e g1 g2 g3 gA
      have hi : (i : Int) < R 0 13 := by omega
      obtain ⟨s1, s2⟩ := (st S1 g1 g2).2 i hi
      obtain ⟨⟨b1, b2, b3, b4, b5⟩, ⟨-, -, b6, -⟩, ⟨b7, b8⟩, b9, b10⟩ := hA i hi
      obtain ⟨m1, m2, m3, m4, m5, m6, m7, m8, m9⟩ := hrA.2.2 i hi
      have sk : ¬ bsD R i → B_X7_isAsIfInTurn_84 V (o + 28) (some (o + 25 + 1)) (B_X7_isAsIfInTurn_10 V (o + 28) (some (o + 25 + 1)) Q (m + 1)) (i : Int) S1 Q := by
        intro nd
        refine ⟨by unfold rng; omega, ?_⟩
        have := ih (i + 1) S1 (by omega) g1 g2 (fun a ha => by rw [g3 a ha, bsP_s, if_neg (fun w => nd w.1)]) (fun k hk hd => by
          by_cases ek : k = i
          · rw [ek] at hd; exact absurd hd nd
          · exact gA k (by omega) hd)
        exact this
      unfold B_X7_isAsIfInTurn_10
      rw [(st S1 g1 g2).1, tn, s1]
      refine ⟨fun w => by omega, fun _ => ⟨by omega, fun w => (by cases w), fun _ => ⟨c i, rfl, b4, ?_⟩⟩⟩
      rw [s2, b7]
      refine ⟨fun d0 => sk (fun w => w.1 d0), fun d0 => pv_isFence b4 (fun f4 => ⟨fun _ => sk (fun w => w.2 (by rw [← b5]; exact f4)), fun w => absurd w (by decide)⟩) (fun f4 => ⟨fun w => absurd rfl w, fun _ => ?_⟩)⟩
      rw [b5] at f4
      have hd : bsD R i := ⟨d0, f4⟩
      have hr := pl_r hrA hi f4
      rw [s2, b6, g3 _ (by omega)]
      have hpb := bsP_b hrA i (by omega) (R 6 i).toNat
      refine ⟨hr, pv_answer b4 ?_⟩
      rw [b5, s2, b8]
      have eq : (if R 4 i = 0 ∨ R 4 i = 3 then bsP R i (R 6 i).toNat else -2) = R 11 i ↔ (R 11 i = -2 ∨ R 11 i = bsP R i (R 6 i).toNat) := by
        by_cases w : R 4 i = 0 ∨ R 4 i = 3
        · rw [if_pos w]
          have := m9 w d0
          omega
        · rw [if_neg w]
          have := m8 (by omega) (by omega)
          omega
      refine ⟨fun w => ?_, fun w => k0 (fun g => w (eq.mpr (g.1 i (by omega) hd))) S1 g1 g2⟩
      have fin : ∀ x : Int, x = bsN R i (bsP R i (R 6 i).toNat) → (0 ≤ S1.1 (c i) 2 ∧ S1.1 (c i) 2 < 1024) ∧ ∀ S42 : Me, S42 = sI S1 (o + 28 + 2) (Int.toNat (S1.1 (c i) 2)) x → B_X7_isAsIfInTurn_84 V (o + 28) (some (o + 25 + 1)) (B_X7_isAsIfInTurn_10 V (o + 28) (some (o + 25 + 1)) Q (m + 1)) (i : Int) S42 Q := by
        intro x hx
        rw [s2, b6]
        refine ⟨hr, fun S42 e42 => ⟨by unfold rng; omega, ?_⟩⟩
        have := ih (i + 1) S42 (by omega) (by rw [e42, sI_2, g1]) (fun b hb => by rw [e42, sI_na hb, g2 b hb]) (fun a ha => by
          rw [e42, sI_at, bsP_s, g3 a ha]
          by_cases ea : a = (R 6 i).toNat
          · rw [if_pos ea, if_pos ⟨hd, ea⟩, hx, ea]
          · rw [if_neg ea, if_neg (fun y => ea y.2)]) (fun k hk hd' => by
          by_cases ek : k = i
          · rw [ek]; exact eq.mp w
          · exact gA k (by omega) hd')
        exact this
      have e11 : S1.1 (c i) 11 = S.1 (c i) 11 := by rw [s2]
      have e12 : S1.1 (c i) 12 = S.1 (c i) 12 := by rw [s2]
      have f' := fin
      rw [s2, b6] at f'
      refine pv_octet b4 (fun g => ?_) (fun g => ?_) (fun g => ?_)
      · rw [b5] at g
        rw [b6]
        refine f' _ ?_
        unfold bsN
        rw [if_pos (by omega)]
      · rw [b5] at g
        rw [b6]
        refine f' _ ?_
        unfold bsN
        rw [e11, b9 (by omega), if_neg (by omega), m5 g, by_w hpb.1 hpb.2 m4.1 m4.2.1]
      · rw [b5] at g
        rw [b6]
        refine f' _ ?_
        unfold bsN
        rw [e11, e12, b9 (by omega), b10 g, if_neg (by omega)]
  exact ⟨nA_ R + 1, l1 (nA_ R) 0 S0 (by omega) a1 a2 (fun a ha => by rw [a3 a ha]; rfl) (fun k hk => by omega)⟩
theorem p_besideR {V : Vt} {q : Nat} {S : Me} {Q : Int → Me → Prop} (hX : fX12 V q) (hr : rA (rf q S)) (k1 : bsA (rf q S) (nA_ (rf q S)) → bsM (rf q S) (nA_ (rf q S)) → ∀ S', fR q S S' → rf q S' = rf q S → Q 1 S') (k0 : ¬ (bsA (rf q S) (nA_ (rf q S)) ∧ bsM (rf q S) (nA_ (rf q S))) → ∀ S', fR q S S' → rf q S' = rf q S → Q 0 S') : PT_X12_beside V q S Q := by
  have h13 := hr.1
  have ei : ((nA_ (rf q S) : Nat) : Int) = rf q S 0 13 := by unfold nA_; omega
  intro Sa ea
  obtain ⟨t1, t2⟩ := th_0 ea
  have l3 : ∀ (m i : Nat) (y1 : Int) (S1 : Me), i + m = nA_ (rf q S) → fR q S S1 → rf q S1 = rf q S → (∀ a, a < 1024 → S1.1 (q + 24) a = bsP (rf q S) (nA_ (rf q S)) a) → (y1 = 0 ∨ y1 = 1) → (y1 = 1 ↔ (bsA (rf q S) (nA_ (rf q S)) ∧ bsM (rf q S) i)) → B_X12_beside_159 V q Q (m + 1) y1 (i : Int) S1 := by
    intro m
    induction m with
    | zero =>
      intro i y1 S1 e f1 r1 g3 h01 hy
      unfold B_X12_beside_159
      rw [rf0 13 (by decide), r1]
      have ein : i = nA_ (rf q S) := by omega
      rw [ein] at hy
      refine ⟨fun _ => ⟨fun w => k0 (fun g => by have := hy.mpr g; omega) S1 f1 r1, fun w => ?_⟩, fun w => by omega⟩
      have g := hy.mp (by omega)
      exact k1 g.1 g.2 S1 f1 r1
    | succ m ih =>
      intro i y1 S1 e f1 r1 g3 h01 hy
      have hi : (i : Int) < rf q S 0 13 := by omega
      have i4 : (0 : Int) ≤ (i : Int) ∧ (i : Int) < 400 := by omega
      have nx : ∀ y : Int, (y = 0 ∨ y = 1) → (y = 1 ↔ (bsA (rf q S) (nA_ (rf q S)) ∧ bsM (rf q S) (i + 1))) → B_X12_beside_211 V q (B_X12_beside_159 V q Q (m + 1)) (i : Int) y S1 Q := fun y y1 y2 => ⟨by unfold rng; omega, by have := ih (i + 1) y S1 (by omega) f1 r1 g3 y1 y2; exact this⟩
      have sp : bsM (rf q S) (i + 1) ↔ bsM (rf q S) i ∧ (¬ rf q S 4 i = 4 → bsP (rf q S) (nA_ (rf q S)) (rf q S 6 i).toNat = rf q S 3 (rf q S 6 i).toNat) := by
        constructor
        · intro g
          exact ⟨fun k hk => g k (by omega), g i (by omega)⟩
        · rintro ⟨u1, u2⟩ k hk
          by_cases ek : k = i
          · rw [ek]; exact u2
          · exact u1 k (by omega)
      unfold B_X12_beside_159
      rw [rf0 13 (by decide), r1, tn, rfa 4 i (by decide), rfa 6 i (by decide), r1]
      refine ⟨fun w => by omega, fun _ => ⟨fun w => nx 0 (Or.inl rfl) ⟨fun z => absurd z (by decide), fun z => ?_⟩, fun w => ⟨i4, fun f4 => nx 1 (Or.inr rfl) ⟨fun _ => ?_, fun _ => rfl⟩, fun f4 => ?_⟩⟩⟩
      · have := hy.mpr ⟨z.1, (sp.mp z.2).1⟩
        omega
      · have g := hy.mp (by omega)
        exact ⟨g.1, sp.mpr ⟨g.2, fun z => absurd f4 z⟩⟩
      · have hpr := pl_r hr hi f4
        have g := hy.mp (by omega)
        rw [g3 _ (by omega), rfa 3 _ (by decide), r1]
        refine ⟨i4, hpr, i4, hpr, fun w2 => nx 0 (Or.inl rfl) ⟨fun z => absurd z (by decide), fun z => absurd ((sp.mp z.2).2 f4) w2⟩, fun w2 => nx 1 (Or.inr rfl) ⟨fun _ => ⟨g.1, sp.mpr ⟨g.2, fun _ => w2⟩⟩, fun _ => rfl⟩⟩
  have l2 : ∀ (m i : Nat) (y1 : Int) (S1 : Me), i + m = nA_ (rf q S) → fR q S S1 → rf q S1 = rf q S → (∀ a, a < 1024 → S1.1 (q + 24) a = bsP (rf q S) i a) → (y1 = 0 ∨ y1 = 1) → (y1 = 1 ↔ bsA (rf q S) i) → B_X12_beside_31 V q Q (m + 1) y1 (i : Int) S1 := by
    intro m
    induction m with
    | zero =>
      intro i y1 S1 e f1 r1 g3 h01 hy
      unfold B_X12_beside_31
      rw [rf0 13 (by decide), r1]
      have ein : i = nA_ (rf q S) := by omega
      rw [ein] at hy g3
      refine ⟨fun _ => ⟨nA_ (rf q S) + 1, l3 (nA_ (rf q S)) 0 y1 S1 (by omega) f1 r1 g3 h01 ?_⟩, fun w => by omega⟩
      rw [hy]
      exact ⟨fun g => ⟨g, fun k hk => by omega⟩, fun g => g.1⟩
    | succ m ih =>
      intro i y1 S1 e f1 r1 g3 h01 hy
      have hi : (i : Int) < rf q S 0 13 := by omega
      have i4 : (0 : Int) ≤ (i : Int) ∧ (i : Int) < 400 := by omega
      have sp : bsA (rf q S) (i + 1) ↔ bsA (rf q S) i ∧ (bsD (rf q S) i → rf q S 11 i = -2 ∨ rf q S 11 i = bsP (rf q S) i (rf q S 6 i).toNat) := by
        constructor
        · intro g
          exact ⟨fun k hk => g k (by omega), g i (by omega)⟩
        · rintro ⟨u1, u2⟩ k hk
          by_cases ek : k = i
          · rw [ek]; exact u2
          · exact u1 k (by omega)
      have sk : ¬ bsD (rf q S) i → B_X12_beside_151 V q (B_X12_beside_31 V q Q (m + 1)) y1 (i : Int) S1 Q := by
        intro nd
        refine ⟨by unfold rng; omega, ?_⟩
        have := ih (i + 1) y1 S1 (by omega) f1 r1 (fun a ha => by rw [g3 a ha, bsP_s, if_neg (fun w => nd w.1)]) h01 (by rw [hy, sp]; exact ⟨fun g => ⟨g, fun z => absurd z nd⟩, fun g => g.1⟩)
        exact this
      unfold B_X12_beside_31
      rw [rf0 13 (by decide), r1]
      refine ⟨fun w => by omega, fun _ => p_waits (by omega) ?_ ?_⟩
      · rw [r1]
        exact fun zw => ⟨fun _ => sk (fun w => w.1 zw), fun w => absurd w (by decide)⟩
      · rw [r1]
        intro zw
        refine ⟨fun w => absurd rfl w, fun _ => ⟨i4, ?_⟩⟩
        rw [tn, rfa 4 i (by decide), rfa 6 i (by decide), rfa 11 i (by decide), r1]
        refine ⟨fun f4 => ?_, fun f4 => sk (fun w => w.2 f4)⟩
        have hd : bsD (rf q S) i := ⟨zw, f4⟩
        have hpr := pl_r hr hi f4
        rw [g3 _ (by omega)]
        -- the plain byte is written
        have wr : ∀ y : Int, (y = 0 ∨ y = 1) → (y = 1 ↔ bsA (rf q S) (i + 1)) → B_X12_beside_102 V q (B_X12_beside_31 V q Q (m + 1)) (i : Int) (bsP (rf q S) i (rf q S 6 i).toNat) y S1 Q := by
          intro y y01 hy2
          have st : ∀ x : Int, x = bsN (rf q S) i (bsP (rf q S) i (rf q S 6 i).toNat) → B_X12_beside_150 V q (B_X12_beside_31 V q Q (m + 1)) y (i : Int) (some (q + 24)) (rf q S 6 i) x S1 Q := by
            intro x hx
            refine ⟨q + 24, rfl, fX12_plain_t hX, ⟨hpr.1, by rw [fX12_plain_n hX]; omega⟩, fun S21 e21 => ⟨by unfold rng; omega, ?_⟩⟩
            have := ih (i + 1) y S21 (by omega) (by rw [e21]; exact fR_s f1 (by decide)) (by rw [e21, rf_s (by unfold scr; omega), r1]) (fun a ha => by
              rw [e21, sI_at, bsP_s, g3 a ha]
              by_cases ea : a = (rf q S 6 i).toNat
              · rw [if_pos ea, if_pos ⟨hd, ea⟩, hx, ea]
              · rw [if_neg ea, if_neg (fun z => ea z.2)]) y01 hy2
            exact this
          unfold B_X12_beside_102
          rw [tn, rfa (q := q) (S := S1) 4 i (by decide), rfa (q := q) (S := S1) 6 i (by decide), rfa (q := q) (S := S1) 7 i (by decide), rfa (q := q) (S := S1) 8 i (by decide), r1]
          refine ⟨i4, i4, fun w => ⟨i4, i4, i4, st _ ?_⟩, fun w => st _ ?_⟩
          · unfold bsN; rw [if_neg w]
          · unfold bsN; rw [if_pos w]
        refine ⟨i4, hpr, fun w => wr 0 (Or.inl rfl) ⟨fun z => absurd z (by decide), fun z => ?_⟩, fun w => ⟨i4, fun w2 => wr 1 (Or.inr rfl) ⟨fun _ => ?_, fun _ => rfl⟩, fun w2 => ⟨i4, fun w3 => wr 0 (Or.inl rfl) ⟨fun z => absurd z (by decide), fun z => ?_⟩, fun w3 => wr 1 (Or.inr rfl) ⟨fun _ => ?_, fun _ => rfl⟩⟩⟩⟩
        · have := hy.mpr (sp.mp z).1
          omega
        · exact sp.mpr ⟨hy.mp (by omega), fun _ => Or.inl w2⟩
        · rcases (sp.mp z).2 hd with u | u
          · exact absurd u w2
          · exact absurd u w3
        · exact sp.mpr ⟨hy.mp (by omega), fun _ => Or.inr w3⟩
  have l1 : ∀ (m i : Nat) (S1 : Me), i + m = 1024 → fR q S S1 → rf q S1 = rf q S → (∀ a, a < i → S1.1 (q + 24) a = 0) → B_X12_beside_9 V q Q (m + 1) 1 (i : Int) S1 := by
    intro m
    induction m with
    | zero =>
      intro i S1 e f1 r1 g3
      unfold B_X12_beside_9
      exact ⟨fun _ => ⟨nA_ (rf q S) + 1, l2 (nA_ (rf q S)) 0 1 S1 (by omega) f1 r1 (fun a ha => by rw [g3 a (by omega)]; rfl) (Or.inr rfl) ⟨fun _ k hk => by omega, fun _ => rfl⟩⟩, fun w => by omega⟩
    | succ m ih =>
      intro i S1 e f1 r1 g3
      unfold B_X12_beside_9
      refine ⟨fun w => by omega, fun _ => ⟨by omega, fun S54 e54 => ⟨by unfold rng; omega, ?_⟩⟩⟩
      rw [tn] at e54
      have := ih (i + 1) S54 (by omega) (by rw [e54]; exact fR_s f1 (by decide)) (by rw [e54, rf_s (by unfold scr; omega), r1]) (fun a ha => by
        rw [e54, sI_at]
        by_cases w : a = i
        · rw [if_pos w]
        · rw [if_neg w, g3 a (by omega)])
      exact this
  exact ⟨1025, l1 1024 0 Sa (by omega) t1 t2 (fun a ha => by omega)⟩
theorem pr_beside {o : Nat} {V : Vt} {S : Me} {n : Int} (h : jJ o V S n) : PT_X11_beside V o S (fun r S1 => PT_X12_beside V (o + 42) S1 (fun r2 S2 => r2 = r ∧ jJ o V S2 n)) := by
  obtain ⟨c, hT⟩ := jJ_st h
  have hV := hT.1.1
  have hrA := hT.1.2.2.2.2.2.2.2.2.2.1
  unfold PT_X11_beside
  have mk : ∀ S' : Me, S'.2 = S.2 → (∀ b, b ≠ o + 28 + 2 → S'.1 b = S.1 b) → jT o V S' c (rf (o + 42) S) n ∧ rf (o + 42) S' = rf (o + 42) S := fun S' f2 f1 => ⟨jT_c (fun a ha => f1 a (by omega)) f2 hT, rf_c (fun b b1 b2 => f1 b (by omega))⟩
  refine p_besideC hT.1 (fun gA gM S' f2 f1 => ⟨fun w => absurd w (by decide), fun _ => ?_⟩) (fun g S' f2 f1 => ⟨fun _ => ?_, fun w => absurd rfl w⟩)
  · obtain ⟨hT', eR⟩ := mk S' f2 f1
    refine p_besideR hV.2.1 (by rw [eR]; exact hrA) ?_ ?_
    · rw [eR]; exact fun _ _ S2 f e => ⟨rfl, jJ_end hT' f e⟩
    · rw [eR]; exact fun w => absurd ⟨gA, gM⟩ w
  · obtain ⟨hT', eR⟩ := mk S' f2 f1
    refine p_besideR hV.2.1 (by rw [eR]; exact hrA) ?_ ?_
    · rw [eR]; exact fun w1 w2 => absurd ⟨w1, w2⟩ g
    · rw [eR]; exact fun _ S2 f e => ⟨rfl, jJ_end hT' f e⟩

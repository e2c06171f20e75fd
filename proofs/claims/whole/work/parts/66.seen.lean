/-! ===== PURE PART: pairs: row, octet, log, forge, broken, count, soonest, worst ===== -/
theorem p_bank {V : Vt} {x : Int} {S : Me} {Q : Int → Me → Prop} (h1 : 0 ≤ x ∧ x ≤ 3 → Q 1 S) (h0 : ¬ (0 ≤ x ∧ x ≤ 3) → Q 0 S) : PT_X11_isBank V x S Q := p_within (fun g => ⟨Or.inr rfl, h1 g⟩) (fun g => ⟨Or.inl rfl, h0 g⟩)
theorem p_asker {V : Vt} {x : Int} {S : Me} {Q : Int → Me → Prop} (h1 : 0 ≤ x ∧ x ≤ 3 → Q 1 S) (h0 : ¬ (0 ≤ x ∧ x ≤ 3) → Q 0 S) : PT_X11_isAsker V x S Q := p_within (fun g => ⟨Or.inr rfl, h1 g⟩) (fun g => ⟨Or.inl rfl, h0 g⟩)
theorem p_addr {V : Vt} {x : Int} {S : Me} {Q : Int → Me → Prop} (h1 : 0 ≤ x ∧ x ≤ 1023 → Q 1 S) (h0 : ¬ (0 ≤ x ∧ x ≤ 1023) → Q 0 S) : PT_X11_isAddress V x S Q := p_within (fun g => ⟨Or.inr rfl, h1 g⟩) (fun g => ⟨Or.inl rfl, h0 g⟩)
theorem p_octet {V : Vt} {x : Int} {S : Me} {Q : Int → Me → Prop} (h1 : 0 ≤ x ∧ x ≤ 255 → Q 1 S) (h0 : ¬ (0 ≤ x ∧ x ≤ 255) → Q 0 S) : PT_X11_isOctet V x S Q := p_within (fun g => ⟨Or.inr rfl, h1 g⟩) (fun g => ⟨Or.inl rfl, h0 g⟩)
theorem pr_row {o : Nat} {V : Vt} {S : Me} {n x1 : Int} (h : jJ o V S n) : PT_X11_row V o x1 S (fun r S1 => PT_X12_row V (o + 42) x1 S1 (fun r2 S2 => r2 = r ∧ jJ o V S2 n)) := by
  obtain ⟨c, hT⟩ := jJ_st h
  obtain ⟨hV, hS, hP, hG, hL, hrL, hM, hrM, hA, hrA, hrO, hQ, hW, hH, hs⟩ := hT.1
  refine p_bank (fun g => ⟨fun e => absurd e (by decide), fun _ => ⟨by omega, fun S1 e1 => ?_⟩⟩) (fun g => ⟨fun _ S1 e1 => ?_, fun e => absurd rfl e⟩)
  · obtain ⟨t1, t2⟩ := th_0 e1
    refine ⟨fun z => absurd g (isin_0.mp z), fun _ => ⟨by omega, ?_, jJ_end hT t1 t2⟩⟩
    rw [rfa (q := o + 42) (S := S1) 2 _ (by decide), t2]
    exact (hM.2 _ (by omega)).symm
  · obtain ⟨t1, t2⟩ := th_0 e1
    exact ⟨fun _ => ⟨rfl, jJ_end hT t1 t2⟩, fun z => absurd (isin_1.mp z) g⟩
theorem pr_octet {o : Nat} {V : Vt} {S : Me} {n x1 : Int} (h : jJ o V S n) : PT_X11_octet V o x1 S (fun r S1 => PT_X12_octet V (o + 42) x1 S1 (fun r2 S2 => r2 = r ∧ jJ o V S2 n)) := by
  obtain ⟨c, hT⟩ := jJ_st h
  obtain ⟨hV, hS, hP, hG, hL, hrL, hM, hrM, hA, hrA, hrO, hQ, hW, hH, hs⟩ := hT.1
  refine p_addr (fun g => ⟨fun e => absurd e (by decide), fun _ => ⟨by omega, fun S1 e1 => ?_⟩⟩) (fun g => ⟨fun _ S1 e1 => ?_, fun e => absurd rfl e⟩)
  · obtain ⟨t1, t2⟩ := th_0 e1
    refine ⟨fun z => absurd g (isin_0.mp z), fun _ => ⟨by omega, ?_, jJ_end hT t1 t2⟩⟩
    rw [rfa (q := o + 42) (S := S1) 3 _ (by decide), t2]
    exact (hM.1 _ (by omega)).symm
  · obtain ⟨t1, t2⟩ := th_0 e1
    exact ⟨fun _ => ⟨rfl, jJ_end hT t1 t2⟩, fun z => absurd (isin_1.mp z) g⟩
theorem pr_broken {o : Nat} {V : Vt} {S : Me} {n : Int} (h : jJ o V S n) : PT_X11_broken V o S (fun r S1 => PT_X12_broken V (o + 42) S1 (fun r2 S2 => r2 = r ∧ jJ o V S2 n)) := by
  obtain ⟨c, hT⟩ := jJ_st h
  obtain ⟨hV, hS, hP, hG, hL, hrL, hM, hrM, hA, hrA, hrO, hQ, hW, hH, hs⟩ := hT.1
  intro S1 e1
  obtain ⟨t1, t2⟩ := th_0 e1
  refine ⟨?_, jJ_end hT t1 t2⟩
  rw [rf0 (q := o + 42) (S := S1) 37 (by decide), t2]
  exact hL.2.1.symm
theorem p_has {V : Vt} {p : Nat} {x : Int} {S : Me} {Q : Int → Me → Prop} (h1 : 0 ≤ x ∧ x < S.1 p 7 → Q 1 S) (h0 : ¬ (0 ≤ x ∧ x < S.1 p 7) → Q 0 S) : PT_X1_has V p x S Q := ⟨fun z => h0 (by omega), fun z => ⟨fun z2 => h0 (by omega), fun z2 => h1 (by omega)⟩⟩
theorem p_isLogged {V : Vt} {q : Nat} {x : Int} {S : Me} {Q : Int → Me → Prop} (h1 : 0 ≤ x ∧ x < rf q S 0 30 → Q 1 S) (h0 : ¬ (0 ≤ x ∧ x < rf q S 0 30) → Q 0 S) : PT_X12_isLogged V q x S Q := by
  unfold PT_X12_isLogged
  rw [rf0 30 (by decide)]
  exact ⟨fun z => h0 (by omega), fun z => ⟨fun z2 => h0 (by omega), fun z2 => h1 (by omega)⟩⟩
theorem pr_log {o : Nat} {V : Vt} {S : Me} {n x1 x2 : Int} (h : jJ o V S n) : PT_X11_log V o x1 x2 S (fun r S1 => PT_X12_log V (o + 42) x1 x2 S1 (fun r2 S2 => r2 = r ∧ jJ o V S2 n)) := by
  obtain ⟨c, hT⟩ := jJ_st h
  obtain ⟨hV, hS, hP, hG, hL, hrL, hM, hrM, hA, hrA, hrO, hQ, hW, hH, hs⟩ := hT.1
  have e30 := hL.1
  have h30 := hrL.2.1
  have bad : ¬ ((0 ≤ x1 ∧ x1 < rf (o + 42) S 0 30) ∧ (0 ≤ x2 ∧ x2 ≤ 4)) → PT_X12_log V (o + 42) x1 x2 S (fun r2 S2 => r2 = -1 ∧ jJ o V S2 n) := by
    intro hb S1 e1
    obtain ⟨t1, t2⟩ := th_0 e1
    refine p_isLogged ?_ ?_
    · rw [t2]
      exact fun g => ⟨fun e => absurd e (by decide), fun _ => ⟨fun z => absurd ⟨g, isin_1.mp z⟩ hb, fun _ => ⟨rfl, jJ_end hT t1 t2⟩⟩⟩
    · rw [t2]
      exact fun g => ⟨fun _ => ⟨rfl, jJ_end hT t1 t2⟩, fun e => absurd rfl e⟩
  have good : ∀ r : Int, (0 ≤ x1 ∧ x1 < rf (o + 42) S 0 30) → (0 ≤ x2 ∧ x2 ≤ 4) → (x2 = 0 → r = rf (o + 42) S 16 x1.toNat) → (x2 = 1 → r = rf (o + 42) S 18 x1.toNat) → (x2 = 2 → r = rf (o + 42) S 19 x1.toNat) → (x2 = 3 → r = rf (o + 42) S 20 x1.toNat) → (x2 = 4 → r = rf (o + 42) S 21 x1.toNat) → PT_X12_log V (o + 42) x1 x2 S (fun r2 S2 => r2 = r ∧ jJ o V S2 n) := by
    intro r g1 g2 r0 r1 r2 r3 r4 S1 e1
    obtain ⟨t1, t2⟩ := th_0 e1
    refine p_isLogged ?_ ?_
    · rw [t2]
      refine fun _ => ⟨fun e => absurd e (by decide), fun _ => ⟨fun _ => ?_, fun z => absurd g2 (isin_0.mp z)⟩⟩
      rw [rfa (q := o + 42) (S := S1) 16 _ (by decide), rfa (q := o + 42) (S := S1) 18 _ (by decide), rfa (q := o + 42) (S := S1) 19 _ (by decide), rfa (q := o + 42) (S := S1) 20 _ (by decide), rfa (q := o + 42) (S := S1) 21 _ (by decide), t2]
      have j := jJ_end hT t1 t2
      exact ⟨fun n0 => ⟨fun n1 => ⟨fun n2 => ⟨fun n3 => ⟨by omega, (r4 (by omega)).symm, j⟩, fun e => ⟨by omega, (r3 e).symm, j⟩⟩, fun e => ⟨by omega, (r2 e).symm, j⟩⟩, fun e => ⟨by omega, (r1 e).symm, j⟩⟩, fun e => ⟨by omega, (r0 e).symm, j⟩⟩
    · rw [t2]
      exact fun g => absurd g1 g
  unfold PT_X11_log
  refine p_has (fun g => ⟨fun _ => ?_, fun e => absurd e (by decide)⟩) (fun g => ⟨fun e => absurd rfl e, fun _ => bad (fun z => g (by rw [e30]; exact z.1))⟩)
  rw [e30] at g
  obtain ⟨l1, l2, l3, l4, l5, l6⟩ := hL.2.2 x1.toNat (by omega)
  rw [l1, l3, l4, l5, l6]
  refine ⟨fun e => ⟨by omega, good _ g (by omega) (fun _ => rfl) (by omega) (by omega) (by omega) (by omega)⟩, fun e => ⟨by omega, good _ g (by omega) (by omega) (fun _ => rfl) (by omega) (by omega) (by omega)⟩, fun e => ⟨by omega, good _ g (by omega) (by omega) (by omega) (fun _ => rfl) (by omega) (by omega)⟩, fun e => ⟨by omega, good _ g (by omega) (by omega) (by omega) (by omega) (fun _ => rfl) (by omega)⟩, fun e => ⟨by omega, good _ g (by omega) (by omega) (by omega) (by omega) (by omega) (fun _ => rfl)⟩, fun e => bad (by omega)⟩
theorem jT_log {o : Nat} {V : Vt} {S S' : Me} {c : Nat → Nat} {R R' : Rm} {n : Int} (h : jT o V S c R n) (h1 : ∀ a, a < o + 10 ∨ o + 16 < a → S'.1 a = S.1 a) (h2 : S'.2 = S.2) (ra : ∀ a, a ≠ 0 → a ≠ 17 → R' a = R a) (r0 : ∀ k, k ≠ 37 → R' 0 k = R 0 k) (hL' : jL o S' R') (hr' : rL R') : jT o V S' c R' n := by
  obtain ⟨hI, hg, hl⟩ := h
  have hI0 := hI
  obtain ⟨hV, hS, hP, hG, hL, hrL, hM, hrM, hA, hrA, hrO, hQ, hW, hH, hs⟩ := hI
  obtain ⟨c1, c2, c3, c4, c5⟩ := com_q (S' := S') (R' := R') hI0 (fun i hi => by have := (hA i hi).1.2.1; exact h1 _ (by omega)) h2 (fun a a1 a2 => h1 a (by omega)) (fun a a1 a2 => ra a (by omega) (by omega)) (fun k hk => r0 k (by omega)) (by rw [r0 6 (by decide)]; exact Int.le_refl _)
  refine ⟨⟨hV, ⟨?_, ?_⟩, jP_R (r0 26 (by decide)) (ra 13 (by decide) (by decide)) (ra 14 (by decide) (by decide)) (ra 15 (by decide) (by decide)) (r0 6 (by decide)) (r0 10 (by decide)) (jP_c (fun a a1 a2 => h1 a (by omega)) hP), rG_R (r0 26 (by decide)) (ra 13 (by decide) (by decide)) (ra 14 (by decide) (by decide)) (ra 15 (by decide) (by decide)) (r0 6 (by decide)) hG, hL', hr', jM_R (ra 3 (by decide) (by decide)) (ra 2 (by decide) (by decide)) ?_, rM_R (ra 3 (by decide) (by decide)) (ra 2 (by decide) (by decide)) hrM, c1, c2, c3, c4, c5, jH_R (r0 13 (by decide)) (ra 25 (by decide) (by decide)) (ra 26 (by decide) (by decide)) (ra 27 (by decide) (by decide)) (ra 28 (by decide) (by decide)) (jH_S hH (fun a _ _ => by rw [h2]) (fun a a1 a2 => h1 a (by omega)) (fun e e1 _ => h1 e (by omega))), rS_R (ra 1 (by decide) (by decide)) (r0 2 (by decide)) (r0 3 (by decide)) (r0 4 (by decide)) (r0 5 (by decide)) hs⟩, ?_, ?_⟩
  · rw [h1 o (by omega), r0 6 (by decide), r0 2 (by decide), r0 3 (by decide), r0 7 (by decide), r0 4 (by decide), r0 5 (by decide), r0 9 (by decide), r0 8 (by decide)]; exact hS.1
  · rw [h1 (o + 1) (by omega), ra 1 (by decide) (by decide)]; exact hS.2
  · unfold jM
    rw [h1 (o + 25 + 1) (by omega), h1 (o + 25 + 2) (by omega)]; exact hM
  · unfold gB
    rw [r0 6 (by decide), r0 7 (by decide), r0 8 (by decide), r0 9 (by decide), r0 10 (by decide), r0 26 (by decide), ra 12 (by decide) (by decide), h1 (o + 28) (by omega)]
    exact hg
  · rw [r0 6 (by decide), r0 7 (by decide)]
    exact hl
theorem pr_forge {o : Nat} {V : Vt} {S : Me} {n x1 x2 : Int} (h : jJ o V S n) : PT_X11_forge V o x1 x2 S (fun r S1 => PT_X12_forge V (o + 42) x1 x2 S1 (fun r2 S2 => r2 = r ∧ jJ o V S2 n)) := by
  obtain ⟨c, hT⟩ := jJ_st h
  obtain ⟨hV, hS, hP, hG, hL, hrL, hM, hrM, hA, hrA, hrO, hQ, hW, hH, hs⟩ := hT.1
  have e30 := hL.1
  have h30 := hrL.2.1
  have bad : ¬ ((0 ≤ x1 ∧ x1 < rf (o + 42) S 0 30) ∧ (1 ≤ x2 ∧ x2 ≤ 1000000)) → PT_X12_forge V (o + 42) x1 x2 S (fun r2 S2 => r2 = -1 ∧ jJ o V S2 n) := by
    intro hb S1 e1
    obtain ⟨t1, t2⟩ := th_0 e1
    refine p_isLogged ?_ ?_
    · rw [t2]
      exact fun g => ⟨fun e => absurd e (by decide), fun _ => ⟨fun z => absurd ⟨g, isin_1.mp z⟩ hb, fun _ => ⟨rfl, jJ_end hT t1 t2⟩⟩⟩
    · rw [t2]
      exact fun g => ⟨fun _ => ⟨rfl, jJ_end hT t1 t2⟩, fun e => absurd rfl e⟩
  unfold PT_X11_forge
  refine p_has (fun g => ⟨fun e => absurd e (by decide), fun _ => p_within (fun g2 => ⟨fun _ => ?_, fun e => absurd e (by decide)⟩) (fun g2 => ⟨fun e => absurd rfl e, fun _ => bad (fun z => g2 z.2)⟩)⟩) (fun g => ⟨fun _ => bad (fun z => g (by rw [e30]; exact z.1)), fun e => absurd rfl e⟩)
  rw [e30] at g
  refine ⟨by omega, by omega, fun S10 e10 => ?_⟩
  have hT' : jT o V S10 c (uR (rf (o + 42) S) 17 x1.toNat x2) n := by
    refine jT_log hT (fun a ha => by rw [e10, sI_na (by omega)]) (by rw [e10, sI_2]) (fun a _ h2 => uR_a h2) (fun k _ => uR_k (by omega)) ?_ ?_
    · unfold jL
      have m : ∀ a, a ≠ o + 10 + 2 → S10.1 a = S.1 a := fun a ha => by rw [e10, sI_na ha]
      have u : ∀ a, a ≠ 17 → uR (rf (o + 42) S) 17 x1.toNat x2 a = rf (o + 42) S a := fun a ha => uR_a ha
      rw [m (o + 10) (by omega), m (o + 10 + 1) (by omega), m (o + 10 + 3) (by omega), m (o + 10 + 4) (by omega), m (o + 10 + 5) (by omega), m (o + 10 + 6) (by omega), u 0 (by decide), u 16 (by decide), u 18 (by decide), u 19 (by decide), u 20 (by decide), u 21 (by decide)]
      refine ⟨hL.1, hL.2.1, fun i hi => ?_⟩
      obtain ⟨l1, l2, l3, l4, l5, l6⟩ := hL.2.2 i hi
      refine ⟨l1, ?_, l3, l4, l5, l6⟩
      rw [e10, sI_at, uR_1, l2]
      by_cases z : i = x1.toNat
      · rw [if_pos z, if_pos ⟨rfl, z⟩]
      · rw [if_neg z, if_neg (fun y => z y.2)]
    · unfold rL
      rw [uR_a (b := 0) (by decide), uR_a (b := 18) (by decide), uR_a (b := 19) (by decide)]
      refine ⟨hrL.1, hrL.2.1, fun i hi => ?_⟩
      obtain ⟨l1, l2, l3, l4⟩ := hrL.2.2 i hi
      refine ⟨l1, l2, ?_⟩
      rw [uR_1]
      by_cases z : i = x1.toNat
      · rw [if_pos ⟨rfl, z⟩]; exact g2
      · rw [if_neg (fun y => z y.2)]; exact ⟨l3, l4⟩
  intro S1 e1
  obtain ⟨t1, t2⟩ := th_0 e1
  have eR : rf (o + 42) S10 = rf (o + 42) S := rf_c (fun a a1 a2 => by rw [e10, sI_na (by omega)])
  refine p_isLogged ?_ ?_
  · rw [t2, eR]
    refine fun _ => ⟨fun e => absurd e (by decide), fun _ => ⟨fun _ => ⟨by omega, by omega, fun S9 e9 => ⟨?_, jJ_end hT' (by rw [e9]; exact fR_s t1 (by decide)) ?_⟩⟩, fun z => absurd g2 (isin_0.mp z)⟩⟩
    · rw [rfa (q := o + 42) (S := S1) 17 _ (by decide), t2, eR]
      exact (hL.2.2 x1.toNat (by omega)).2.1.symm
    · rw [e9, rf_w (by unfold scr; omega), t2, eR]
  · rw [t2, eR]
    exact fun z => absurd g z
theorem pr_count {o : Nat} {V : Vt} {S : Me} {n x1 : Int} (h : jJ o V S n) : PT_X11_count V o x1 S (fun r S1 => PT_X12_count V (o + 42) x1 S1 (fun r2 S2 => r2 = r ∧ jJ o V S2 n)) := by
  obtain ⟨c, hT⟩ := jJ_st h
  obtain ⟨hV, hS, hP, hG, hL, hrL, hM, hrM, hA, hrA, hrO, hQ, hW, hH, hs⟩ := hT.1
  have ref : ∀ r : Int, (x1 = 0 → r = rf (o + 42) S 0 6) → (x1 = 1 → r = rf (o + 42) S 0 13) → (x1 = 2 → r = rf (o + 42) S 0 14) → (x1 = 3 → r = rf (o + 42) S 0 7) → (x1 = 4 → r = rf (o + 42) S 0 8) → (x1 = 5 → r = rf (o + 42) S 0 9) → (x1 = 6 → r = rf (o + 42) S 0 30) → (x1 = 7 → r = rf (o + 42) S 0 10) → (8 ≤ x1 ∧ x1 ≤ 11 → r = rf (o + 42) S 12 (x1 - 8).toNat) → (x1 < 0 ∨ 11 < x1 → r = -1) → PT_X12_count V (o + 42) x1 S (fun r2 S2 => r2 = r ∧ jJ o V S2 n) := by
    intro r r0 r1 r2 r3 r4 r5 r6 r7 r8 r9 S1 e1
    obtain ⟨t1, t2⟩ := th_0 e1
    have j := jJ_end hT t1 t2
    rw [rf0 (q := o + 42) (S := S1) 6 (by decide), rf0 (q := o + 42) (S := S1) 13 (by decide), rf0 (q := o + 42) (S := S1) 14 (by decide), rf0 (q := o + 42) (S := S1) 7 (by decide), rf0 (q := o + 42) (S := S1) 8 (by decide), rf0 (q := o + 42) (S := S1) 9 (by decide), rf0 (q := o + 42) (S := S1) 30 (by decide), rf0 (q := o + 42) (S := S1) 10 (by decide), rfa (q := o + 42) (S := S1) 12 _ (by decide), t2]
    refine ⟨fun e => ⟨(r0 e).symm, j⟩, fun e => ⟨(r1 e).symm, j⟩, fun e => ⟨(r2 e).symm, j⟩, fun e => ⟨(r3 e).symm, j⟩, fun e => ⟨(r4 e).symm, j⟩, fun e => ⟨(r5 e).symm, j⟩, fun e => ⟨(r6 e).symm, j⟩, fun e => ⟨(r7 e).symm, j⟩, fun e => ⟨fun z => ⟨(r9 (by have := isin_0.mp z; omega)).symm, j⟩, fun z => ?_⟩⟩
    have z := isin_1.mp z
    exact ⟨by unfold rng; omega, by omega, (r8 z).symm, j⟩
  have b116 : 8 ≤ x1 ∧ x1 ≤ 11 → B_X11_count_116 V o x1 S (fun r S1 => PT_X12_count V (o + 42) x1 S1 (fun r2 S2 => r2 = r ∧ jJ o V S2 n)) := by
    intro z
    unfold B_X11_count_116
    refine ⟨by unfold rng; omega, by omega, ref _ (by omega) (by omega) (by omega) (by omega) (by omega) (by omega) (by omega) (by omega) (fun _ => hQ.2.1 _ (by omega)) (by omega)⟩
  unfold PT_X11_count
  refine ⟨fun e => ref _ (fun _ => hS.1.1) (by omega) (by omega) (by omega) (by omega) (by omega) (by omega) (by omega) (by omega) (by omega), fun e => ref _ (by omega) (fun _ => hQ.1.1) (by omega) (by omega) (by omega) (by omega) (by omega) (by omega) (by omega) (by omega), fun e => ref _ (by omega) (by omega) (fun _ => hQ.1.2.1) (by omega) (by omega) (by omega) (by omega) (by omega) (by omega) (by omega), fun e => ref _ (by omega) (by omega) (by omega) (fun _ => hS.1.2.2.2.1) (by omega) (by omega) (by omega) (by omega) (by omega) (by omega), fun e => ref _ (by omega) (by omega) (by omega) (by omega) (fun _ => hS.1.2.2.2.2.2.2.2) (by omega) (by omega) (by omega) (by omega) (by omega), fun e => ref _ (by omega) (by omega) (by omega) (by omega) (by omega) (fun _ => hS.1.2.2.2.2.2.2.1) (by omega) (by omega) (by omega) (by omega), fun e => ref _ (by omega) (by omega) (by omega) (by omega) (by omega) (by omega) (fun _ => hL.1) (by omega) (by omega) (by omega), fun e => ref _ (by omega) (by omega) (by omega) (by omega) (by omega) (by omega) (by omega) (fun _ => hP.2.2.1) (by omega) (by omega), fun e => b116 (by omega), fun e => b116 (by omega), fun e => b116 (by omega), fun e => b116 (by omega), fun e => ref _ (by omega) (by omega) (by omega) (by omega) (by omega) (by omega) (by omega) (by omega) (by omega) (fun _ => rfl)⟩
theorem pr_soonest {o : Nat} {V : Vt} {S : Me} {n x1 x2 : Int} (h : jJ o V S n) : PT_X11_soonest V o x1 x2 S (fun r S1 => PT_X12_soonest V (o + 42) x1 x2 S1 (fun r2 S2 => r2 = r ∧ jJ o V S2 n)) := by
  obtain ⟨c, hT⟩ := jJ_st h
  have hZ := rZ_of hT.1 hT.2.1
  obtain ⟨hI, hg, hl⟩ := id hT
  obtain ⟨hV, hS, hP, hG, hL, hrL, hM, hrM, hA, hrA, hrO, hQ, hW, hH, hs⟩ := hI
  obtain ⟨g6, g7, g8, g9, g10, g26, gq, g12⟩ := id hg
  have bad : ¬ ((0 ≤ x1 ∧ x1 ≤ 4) ∧ (x1 = 4 ∨ (0 ≤ x2 ∧ x2 ≤ 3))) → PT_X12_soonest V (o + 42) x1 x2 S (fun r2 S2 => r2 = -1 ∧ jJ o V S2 n) := by
    intro hb S1 e1
    obtain ⟨t1, t2⟩ := th_0 e1
    have j := jJ_end hT t1 t2
    refine ⟨fun _ => ⟨rfl, j⟩, fun z => ⟨fun z2 => absurd ⟨isin_1.mp z, Or.inl (by have := isin_1.mp z; omega)⟩ hb, fun z2 => ⟨fun z3 => absurd ⟨isin_1.mp z, Or.inr (isin_1.mp z3)⟩ hb, fun _ => ⟨rfl, j⟩⟩⟩⟩
  have good : (0 ≤ x1 ∧ x1 ≤ 4) → (x1 = 4 ∨ (0 ≤ x2 ∧ x2 ≤ 3)) → B_X11_soonest_23 V o x1 x2 S (fun r S1 => PT_X12_soonest V (o + 42) x1 x2 S1 (fun r2 S2 => r2 = r ∧ jJ o V S2 n)) := by
    intro z1 z2
    -- the reference goes on to its loop
    have ref : ∀ r : Int, (¬ stR (rf (o + 42) S) x1 x2 → r = -2) → (stR (rf (o + 42) S) x1 x2 → rf (o + 42) S 0 6 ≤ r ∧ r ≤ 300100 ∧ ∀ t, rf (o + 42) S 0 6 ≤ t → (r ≤ t ↔ ftR (rf (o + 42) S) x1 x2 t)) → PT_X12_soonest V (o + 42) x1 x2 S (fun r2 S2 => r2 = r ∧ jJ o V S2 n) := by
      intro r r0 r1 S1 e1
      obtain ⟨t1, t2⟩ := th_0 e1
      have j := jJ_end hT t1 t2
      have b36 : B_X12_soonest_36 V (o + 42) x1 x2 S1 (fun r2 S2 => r2 = r ∧ jJ o V S2 n) := by
        unfold B_X12_soonest_36
        refine p_stands (fun e => by omega) ?_ ?_
        · rw [t2]
          intro gs
          obtain ⟨q1, q2, q3⟩ := r1 gs
          refine ⟨fun _ => ?_, fun e => absurd e (by decide)⟩
          rw [rf0 (q := o + 42) (S := S1) 6 (by decide), t2]
          have key : ∀ (m : Nat) (y : Int), y + (m : Int) = r → rf (o + 42) S 0 6 ≤ y → B_X12_soonest_53 V (o + 42) x1 x2 (fun r2 S2 => r2 = r ∧ jJ o V S2 n) (m + 1) y S1 := by
            intro m
            induction m with
            | zero =>
              intro y ey hy
              have ey : y = r := by omega
              have b66 : ∀ b : Int, (x1 = 4 ∨ b = x2) → B_X12_soonest_66 V (o + 42) x1 x2 (B_X12_soonest_53 V (o + 42) x1 x2 (fun r2 S2 => r2 = r ∧ jJ o V S2 n) 0) y (some (o + 42)) x1 b S1 (fun r2 S2 => r2 = r ∧ jJ o V S2 n) := by
                intro b hb
                refine ⟨o + 42, rfl, hV.2.1, p_fitsR (by rw [t2]; exact hG) (by rw [t2]; omega) (by rw [t2]; omega) (fun _ => ⟨fun _ => ⟨ey, j⟩, fun e => absurd e (by decide)⟩) ?_⟩
                rw [t2]
                intro gn
                refine absurd ?_ gn
                have hf := (q3 y hy).mp (by omega)
                rcases hb with hb | hb
                · subst hb; exact ftR_4 hf
                · rw [hb]; exact hf
              exact ⟨fun _ => b66 x2 (Or.inr rfl), fun e => b66 (-2) (Or.inl e)⟩
            | succ m ih =>
              intro y ey hy
              have b66 : ∀ b : Int, (x1 = 4 ∨ b = x2) → B_X12_soonest_66 V (o + 42) x1 x2 (B_X12_soonest_53 V (o + 42) x1 x2 (fun r2 S2 => r2 = r ∧ jJ o V S2 n) (m + 1)) y (some (o + 42)) x1 b S1 (fun r2 S2 => r2 = r ∧ jJ o V S2 n) := by
                intro b hb
                refine ⟨o + 42, rfl, hV.2.1, p_fitsR (by rw [t2]; exact hG) (by rw [t2]; omega) (by rw [t2]; omega) ?_ (fun _ => ⟨fun e => absurd rfl e, fun _ => ⟨by unfold rng; omega, ih (y + 1) (by omega) (by omega)⟩⟩)⟩
                rw [t2]
                intro gy
                exfalso
                have hf : ftR (rf (o + 42) S) x1 x2 y := by
                  rcases hb with hb | hb
                  · subst hb; exact ftR_4 gy
                  · rw [← hb]; exact gy
                have := (q3 y hy).mpr hf
                omega
              exact ⟨fun _ => b66 x2 (Or.inr rfl), fun e => b66 (-2) (Or.inl e)⟩
          exact ⟨(r - rf (o + 42) S 0 6).toNat + 1, key _ _ (by omega) (Int.le_refl _)⟩
        · rw [t2]
          exact fun gs => ⟨fun e => absurd rfl e, fun _ => ⟨(r0 gs).symm, j⟩⟩
      refine ⟨fun z => absurd z1 (isin_0.mp z), fun _ => ⟨fun _ => b36, fun z4 => ⟨fun _ => b36, fun z => ?_⟩⟩⟩
      rcases z2 with z2 | z2
      · omega
      · exact absurd z2 (isin_0.mp z)
    refine p_allows (fun e => by omega) hM hrM (fun gs => ⟨fun _ => ?_, fun e => absurd e (by decide)⟩) (fun gs => ⟨fun e => absurd rfl e, fun _ => ref (-2) (fun _ => rfl) (fun g => absurd g gs)⟩)
    refine p_leastC hV hP hS hG hs hg z1.1 (by omega) (fun e => by omega) (fun m hm => ?_)
    rw [hS.1.1]
    have hub : m ≤ rf (o + 42) S 0 6 + 30 := by
      refine (hm _ (by omega)).mpr ?_
      refine (lt_iff (S := S) hP hS hs g6.1 (by omega) z1.1 (by omega) (fun e => by omega)).mp ⟨by omega, fun r' r0' r1' => ?_⟩
      have hbt := hs.1 r'.toNat (by omega)
      rw [hS.2 _ (by omega)]
      obtain ⟨p1, p2, p3, l1, l2⟩ := hP
      by_cases e : r' = 10
      · subst e
        rw [cF_10]
        split
        · rcases (p2 3 (by omega) (by omega)).2 with w | ⟨i, i1, -, -, i2⟩
          · omega
          · have := (hG i i1).2.2.2
            omega
        · omega
      · rcases (p1 r' x1 x2 r0' r1' e z1.1 (by omega) (fun e => by omega)).2 with w | ⟨i, i1, -, i2⟩
        · omega
        · have := (hG i i1).2.2.2
          omega
    refine ref _ (fun g => absurd gs g) (fun _ => ?_)
    split
    · exact ⟨by omega, by omega, fun t ht => hm t ht⟩
    · refine ⟨Int.le_refl _, by omega, fun t ht => ⟨fun _ => (hm t ht).mp (by omega), fun _ => ht⟩⟩
  unfold PT_X11_soonest
  refine p_within (fun z1 => ⟨fun e => absurd e (by decide), fun _ => ⟨fun e4 => good z1 (Or.inl e4), fun n4 => p_bank (fun z2 => ⟨fun _ => good z1 (Or.inr z2), fun e => absurd e (by decide)⟩) (fun z2 => ⟨fun e => absurd rfl e, fun _ => bad (fun w => w.2.elim n4 z2)⟩)⟩⟩) (fun z1 => ⟨fun _ => bad (fun w => z1 w.1), fun e => absurd rfl e⟩)

/-! ===== PURE PART: the reference's breaks and check; pair check ===== -/
/-- rule r (not 10) is broken by the i-th command and the j-th before it -/
def bdL (R : Rm) (i j : Nat) (r : Int) : Prop := hD r (whL R i j) (bkL R i j) (R 18 i) (R 19 i) ∧ R 17 i - tkL R i j < R 1 r.toNat
theorem p_breaks {V : Vt} {q : Nat} {S : Me} {Q : Int → Me → Prop} {i : Nat} (hL : rL (rf q S)) (hs : rS (rf q S)) (hi : (i : Int) < rf q S 0 30) (k : ∀ y, lsP (brN (rf q S) i i) y → Q y S) : PT_X12_breaks V q (i : Int) S Q := by
  have hl := hL.2.1
  have i4 : (0 : Int) ≤ (i : Int) ∧ (i : Int) < 400 := by omega
  have hfi := (hL.2.2 i hi).2.2
  have key : ∀ (d m : Nat) (y2 : Int), m + d = i → lsP (brN (rf q S) i m) y2 → B_X12_breaks_10 V q (i : Int) Q (d + 1) y2 (if rf q S 18 i = 0 then opn (whL (rf q S) i) m else 0) ((i : Int) - 1 - (m : Int)) S := by
    intro d
    induction d with
    | zero =>
      intro m y2 e hy
      unfold B_X12_breaks_10
      have : m = i := by omega
      subst this
      exact ⟨fun _ => k y2 hy, fun w => by omega⟩
    | succ d ih =>
      intro m y2 e hy
      have et : Int.toNat ((i : Int) - 1 - (m : Int)) = i - 1 - m := by omega
      have m4 : (0 : Int) ≤ (i : Int) - 1 - (m : Int) ∧ (i : Int) - 1 - (m : Int) < 400 := by omega
      have hfm := (hL.2.2 (i - 1 - m) (by omega)).2.2
      have hob := opn_b (whL (rf q S) i) m
      unfold B_X12_breaks_10
      rw [et, tn, rfa 17 i (by decide), rfa 17 (i - 1 - m) (by decide)]
      have etk : rf q S 17 (i - 1 - m) = tkL (rf q S) i m := rfl
      have ewh : rf q S 18 (i - 1 - m) = whL (rf q S) i m := rfl
      have ebk : rf q S 19 (i - 1 - m) = bkL (rf q S) i m := rfl
      rw [etk]
      rw [etk] at hfm
      refine ⟨fun w => by omega, fun _ => ⟨i4, m4, by unfold rng; omega, ?_⟩⟩
      -- the next one
      have nx : ∀ (y : Int), lsP (brN (rf q S) i (m + 1)) y → B_X12_breaks_222 V q (i : Int) (B_X12_breaks_10 V q (i : Int) Q (d + 1)) y (if rf q S 18 i = 0 then opn (whL (rf q S) i) (m + 1) else 0) ((i : Int) - 1 - (m : Int)) S Q := by
        intro y hy2
        refine ⟨by unfold rng; omega, ?_⟩
        have := ih (m + 1) y (by omega) hy2
        rw [show (i : Int) - 1 - ((m + 1 : Nat) : Int) = (i : Int) - 1 - (m : Int) + -1 by omega] at this
        exact this
      have inner : ∀ (e2 : Nat) (y2 y6 : Int), y6 + 1 = (e2 : Int) → y6 ≤ 12 → lsP (fun r => brN (rf q S) i m r ∨ (y6 < r ∧ r ≠ 10 ∧ bdL (rf q S) i m r)) y2 → B_X12_breaks_35 V q (i : Int) (B_X12_breaks_10 V q (i : Int) Q (d + 1)) Q (e2 + 1) y2 (if rf q S 18 i = 0 then opn (whL (rf q S) i) m else 0) ((i : Int) - 1 - (m : Int)) (rf q S 17 i - tkL (rf q S) i m) y6 S := by
        intro e2
        induction e2 with
        | zero =>
          intro y2 y6 ey _ hy2
          unfold B_X12_breaks_35
          rw [et, tn, rfa 18 i (by decide), rfa 18 (i - 1 - m) (by decide), ewh, rfa 1 _ (by decide)]
          have e10 : Int.toNat 10 = 10 := rfl
          rw [e10]
          have hob1 : opn (whL (rf q S) i) (m + 1) = opn (whL (rf q S) i) m + (if whL (rf q S) i m = 0 then 1 else 0) := rfl
          -- rule 10 says nothing
          have no10 : ¬ (whL (rf q S) i m = 0 ∧ rf q S 18 i = 0 ∧ opn (whL (rf q S) i) m = 3 ∧ rf q S 17 i - tkL (rf q S) i m < rf q S 1 10) → lsP (brN (rf q S) i (m + 1)) y2 := by
            intro w
            refine lsC hy2 (fun r r0 r1 => ?_)
            unfold brN
            constructor
            · rintro ((⟨u1, j, j1, j2⟩ | ⟨u1, j, j1, j2⟩) | ⟨u0, u1, u2⟩)
              · exact Or.inl ⟨u1, j, by omega, j2⟩
              · exact Or.inr ⟨u1, j, by omega, j2⟩
              · exact Or.inl ⟨u1, m, by omega, u2⟩
            · rintro (⟨u1, j, j1, j2⟩ | ⟨u1, j, j1, j2⟩)
              · by_cases ej : j = m
                · subst ej; exact Or.inr ⟨by omega, u1, j2⟩
                · exact Or.inl (Or.inl ⟨u1, j, by omega, j2⟩)
              · by_cases ej : j = m
                · subst ej; exact absurd j2 w
                · exact Or.inl (Or.inr ⟨u1, j, by omega, j2⟩)
          refine ⟨fun _ => ⟨m4, fun n0 => ?_, fun e0 => ⟨i4, fun ni => ?_, fun ei => ?_⟩⟩, fun w => by omega⟩
          · have := nx y2 (no10 (fun w => n0 w.1))
            rw [hob1, if_neg n0, Int.add_zero] at this
            exact this
          · have := nx y2 (no10 (fun w => ni w.2.1))
            rw [if_neg ni] at this ⊢
            exact this
          · have n' := fun y hy => nx y hy
            rw [if_pos ei, hob1, if_pos e0] at n'
            rw [if_pos ei]
            refine ⟨by unfold rng; omega, fun n4 => ⟨fun _ => n' y2 (no10 (fun w => by have := w.2.2.1; omega)), fun w => absurd rfl w⟩, fun e4 => ⟨fun le => ⟨fun _ => n' y2 (no10 (fun w => by have := w.2.2.2; omega)), fun w => absurd rfl w⟩, fun nle => ⟨fun w => absurd w (by decide), fun _ => ?_⟩⟩⟩
            have h10 : ∀ r, 0 ≤ r → r < 13 → (brN (rf q S) i (m + 1) r ↔ (brN (rf q S) i m r ∨ (y6 < r ∧ r ≠ 10 ∧ bdL (rf q S) i m r)) ∨ r = 10) := by
              intro r r0 r1
              unfold brN
              constructor
              · rintro (⟨u1, j, j1, j2⟩ | ⟨u1, j, j1, j2⟩)
                · by_cases ej : j = m
                  · subst ej; exact Or.inl (Or.inr ⟨by omega, u1, j2⟩)
                  · exact Or.inl (Or.inl (Or.inl ⟨u1, j, by omega, j2⟩))
                · exact Or.inr u1
              · rintro (((⟨u1, j, j1, j2⟩ | ⟨u1, j, j1, j2⟩) | ⟨u0, u1, u2⟩) | u)
                · exact Or.inl ⟨u1, j, by omega, j2⟩
                · exact Or.inr ⟨u1, j, by omega, j2⟩
                · exact Or.inl ⟨u1, m, by omega, u2⟩
                · exact Or.inr ⟨u, m, by omega, e0, ei, by omega, by omega⟩
            obtain ⟨t1, t2, t3⟩ := lsI hy2 (r0 := 10) (by decide) h10
            exact ⟨fun w => n' 10 (t1 w), fun w => ⟨fun w2 => n' y2 (t3 w w2), fun w2 => n' 10 (t2 w w2)⟩⟩
        | succ e2 ih2 =>
          intro y2 y6 ey hy12 hy2
          have r6 : 0 ≤ y6 ∧ y6 < 13 := by omega
          unfold B_X12_breaks_35
          refine ⟨fun w => by omega, fun _ => ?_⟩
          have keep : ¬ (y6 ≠ 10 ∧ bdL (rf q S) i m y6) → B_X12_breaks_123 V q (i : Int) (B_X12_breaks_10 V q (i : Int) Q (d + 1)) (B_X12_breaks_35 V q (i : Int) (B_X12_breaks_10 V q (i : Int) Q (d + 1)) Q (e2 + 1)) y2 (if rf q S 18 i = 0 then opn (whL (rf q S) i) m else 0) ((i : Int) - 1 - (m : Int)) (rf q S 17 i - tkL (rf q S) i m) y6 S Q := by
            intro nb
            refine ⟨fun _ => ⟨by unfold rng; omega, ih2 y2 _ (by omega) (by omega) (lsC hy2 (fun r r0 r1 => ?_))⟩, fun w => absurd rfl w⟩
            constructor
            · rintro (u | ⟨u0, u1, u2⟩)
              · exact Or.inl u
              · exact Or.inr ⟨by omega, u1, u2⟩
            · rintro (u | ⟨u0, u1, u2⟩)
              · exact Or.inl u
              · by_cases er : r = y6
                · rw [er] at u1 u2; exact absurd ⟨u1, u2⟩ nb
                · exact Or.inr ⟨by omega, u1, u2⟩
          refine ⟨fun e10 => keep (fun w => w.1 e10), fun n10 => ?_⟩
          rw [et, tn, rfa 18 i (by decide), rfa 18 (i - 1 - m) (by decide), rfa 19 i (by decide), rfa 19 (i - 1 - m) (by decide), ewh, ebk]
          have htm := hs.1 y6.toNat (by omega)
          refine ⟨m4, m4, i4, i4, p_asked r6 (fun hd => ?_) (fun hd => ?_)⟩
          · rw [rfa 1 _ (by decide)]
            refine ⟨fun le => keep (fun w => by have := w.2.2; omega), fun nle => ⟨m4, m4, i4, i4, ?_⟩⟩
            rw [rfa 18 i (by decide), rfa 18 (i - 1 - m) (by decide), rfa 19 i (by decide), rfa 19 (i - 1 - m) (by decide), ewh, ebk]
            refine p_asked r6 (fun hd2 => ?_) (fun hd2 => absurd hd hd2)
            rw [rfa 1 _ (by decide)]
            refine ⟨fun w => by omega, fun _ => ⟨fun w => absurd w (by decide), fun _ => ?_⟩⟩
            have hb : bdL (rf q S) i m y6 := ⟨hd, by omega⟩
            have hP : ∀ r, 0 ≤ r → r < 13 → ((brN (rf q S) i m r ∨ (y6 + -1 < r ∧ r ≠ 10 ∧ bdL (rf q S) i m r)) ↔ (brN (rf q S) i m r ∨ (y6 < r ∧ r ≠ 10 ∧ bdL (rf q S) i m r)) ∨ r = y6) := by
              intro r r0 r1
              constructor
              · rintro (u | ⟨u0, u1, u2⟩)
                · exact Or.inl (Or.inl u)
                · by_cases er : r = y6
                  · exact Or.inr er
                  · exact Or.inl (Or.inr ⟨by omega, u1, u2⟩)
              · rintro ((u | ⟨u0, u1, u2⟩) | u)
                · exact Or.inl u
                · exact Or.inr ⟨by omega, u1, u2⟩
                · rw [u]; exact Or.inr ⟨by omega, n10, hb⟩
            obtain ⟨t1, t2, t3⟩ := lsI hy2 r6 hP
            have go : ∀ y, lsP (fun r => brN (rf q S) i m r ∨ (y6 + -1 < r ∧ r ≠ 10 ∧ bdL (rf q S) i m r)) y → B_X12_breaks_147 V q (i : Int) (B_X12_breaks_10 V q (i : Int) Q (d + 1)) (B_X12_breaks_35 V q (i : Int) (B_X12_breaks_10 V q (i : Int) Q (d + 1)) Q (e2 + 1)) (if rf q S 18 i = 0 then opn (whL (rf q S) i) m else 0) ((i : Int) - 1 - (m : Int)) (rf q S 17 i - tkL (rf q S) i m) y6 y S Q := fun y hy => ⟨by unfold rng; omega, ih2 y _ (by omega) (by omega) hy⟩
            exact ⟨fun w => go y6 (t1 w), fun w => ⟨fun w2 => go y2 (t3 w w2), fun w2 => go y6 (t2 w w2)⟩⟩
          · refine ⟨fun _ => keep (fun w => hd w.2.1), fun nle => ⟨m4, m4, i4, i4, ?_⟩⟩
            rw [rfa 18 i (by decide), rfa 18 (i - 1 - m) (by decide), rfa 19 i (by decide), rfa 19 (i - 1 - m) (by decide), ewh, ebk]
            exact p_asked r6 (fun hd2 => absurd hd2 hd) (fun _ => ⟨fun _ => keep (fun w => hd w.2.1), fun w => absurd (Int.le_refl 0) w⟩)
      exact ⟨14, inner 13 y2 12 (by omega) (by omega) (lsC hy (fun r r0 r1 => ⟨Or.inl, fun w => w.elim id (fun u => by omega)⟩))⟩
  refine ⟨by unfold rng; omega, i + 1, ?_⟩
  have := key i 0 (-2) (by omega) (Or.inl ⟨rfl, fun r r0 r1 w => ?_⟩)
  · have e : (if rf q S 18 i = 0 then opn (whL (rf q S) i) 0 else 0) = 0 := by split <;> rfl
    rw [e, show (i : Int) - 1 - ((0 : Nat) : Int) = (i : Int) - 1 by omega] at this
    exact this
  · rcases w with ⟨-, j, j1, -⟩ | ⟨-, j, j1, -⟩ <;> omega
theorem p_checkR {V : Vt} {q : Nat} {S : Me} {Q : Int → Me → Prop} (hX : fX12 V q) (hL : rL (rf q S)) (hs : rS (rf q S)) (k : ∀ r br S', ckR (rf q S) r br → fR q S S' → rf q S' = uR (rf q S) 0 37 br → Q r S') : PT_X12_check V q S Q := by
  have hl := hL.2.1
  intro Sa ea S0 e0
  obtain ⟨t1, t2⟩ := th_0 ea
  have f0 : fR q S S0 := by rw [e0]; exact fR_s0 t1
  have r0 : rf q S0 = uR (rf q S) 0 37 (-2) := by rw [e0, rf_w0 (by unfold scr; omega), t2]
  have hL0 : rL (rf q S0) := by rw [r0]; exact rL_R (uR_k (by omega)) (uR_a (by decide)) (uR_a (by decide)) (uR_a (by decide)) hL
  have hs0 : rS (rf q S0) := by rw [r0]; exact rS_R (uR_a (by decide)) (uR_k (by omega)) (uR_k (by omega)) (uR_k (by omega)) (uR_k (by omega)) hs
  have e30 : rf q S0 0 30 = rf q S 0 30 := by rw [r0, uR_k (by omega)]
  have e17 : rf q S0 17 = rf q S 17 := by rw [r0, uR_a (by decide)]
  have ebr : ∀ i m r, brN (rf q S0) i m r ↔ brN (rf q S) i m r := by
    intro i m r
    have h18 : rf q S0 18 = rf q S 18 := by rw [r0, uR_a (by decide)]
    have h19 : rf q S0 19 = rf q S 19 := by rw [r0, uR_a (by decide)]
    have h1 : rf q S0 1 = rf q S 1 := by rw [r0, uR_a (by decide)]
    have w1 : whL (rf q S0) i = whL (rf q S) i := by funext j; unfold whL; rw [h18]
    have w2 : bkL (rf q S0) i = bkL (rf q S) i := by funext j; unfold bkL; rw [h19]
    have w3 : tkL (rf q S0) i = tkL (rf q S) i := by funext j; unfold tkL; rw [e17]
    unfold brN
    rw [w1, w2, w3, h18, h19, e17, h1]
  -- a fault
  have out : ∀ (i : Nat) (y w1 : Int), (i : Int) < rf q S 0 30 → (∀ i' : Nat, i' < i → gdL (rf q S) i') → ¬ gdL (rf q S) i → lsP (brN (rf q S) i i) y → w1 = (if y < 0 then 13 else y) → B_X12_check_73 V q (i : Int) (some q) w1 S0 Q := by
    intro i y w1 hi hg hn hy ew
    refine ⟨q, rfl, hX, fun S2 e2 => k (i : Int) w1 S2 (Or.inr ⟨i, hi, hg, hn, rfl, y, hy, ew⟩) (by rw [e2]; exact fR_s0 f0) ?_⟩
    rw [e2, rf_w0 (by unfold scr; omega), r0]
    funext a j
    rw [uR_1, uR_1, uR_1]
    by_cases z : a = 0 ∧ j = 37
    · rw [if_pos z, if_pos z]
    · rw [if_neg z, if_neg z, if_neg z]
  have out62 : ∀ (i : Nat) (y : Int), (i : Int) < rf q S 0 30 → (∀ i' : Nat, i' < i → gdL (rf q S) i') → ¬ gdL (rf q S) i → lsP (brN (rf q S) i i) y → B_X12_check_62 V q (i : Int) y S0 Q := fun i y hi hg hn hy => ⟨fun w => out i y 13 hi hg hn hy (by rw [if_pos w]), fun w => out i y y hi hg hn hy (by rw [if_neg w])⟩
  have key : ∀ (m i : Nat), (i : Int) + (m : Int) = rf q S 0 30 → (∀ i' : Nat, i' < i → gdL (rf q S) i') → B_X12_check_13 V q Q (m + 1) (i : Int) S0 := by
    intro m
    induction m with
    | zero =>
      intro i e hg
      unfold B_X12_check_13
      rw [rf0 30 (by decide), e30]
      exact ⟨fun _ => k (-2) (-2) S0 (Or.inl ⟨fun j hj => hg j (by omega), rfl, rfl⟩) f0 r0, fun w => by omega⟩
    | succ m ih =>
      intro i e hg
      have hi : (i : Int) < rf q S 0 30 := by omega
      unfold B_X12_check_13
      rw [rf0 30 (by decide), e30]
      refine ⟨fun w => by omega, fun _ => p_breaks hL0 hs0 (by rw [e30]; exact hi) (fun y hy => ?_)⟩
      have hy := lsC hy (fun r _ _ => ebr i i r)
      have b53 : ∀ w : Int, (¬ w = 0 ↔ (i = 0 ∨ rf q S 17 (i - 1) < rf q S 17 i)) → B_X12_check_53 V q (B_X12_check_13 V q Q (m + 1)) (i : Int) y w S0 Q := by
        intro w hw
        refine ⟨fun y0 => out62 i y hi hg (fun g => ?_) hy, fun y0 => ⟨fun w0 => ⟨by unfold rng; omega, ?_⟩, fun w0 => out62 i y hi hg (fun g => (hw.mpr g.2) w0) hy⟩⟩
        · rcases hy with ⟨a, -⟩ | ⟨a, b, c, -⟩
          · omega
          · exact g.1 y a b c
        · have := ih (i + 1) (by omega) (fun i' hi' => by
            by_cases ei : i' = i
            · rw [ei]
              refine ⟨?_, hw.mp w0⟩
              rcases hy with ⟨-, a⟩ | ⟨a, -⟩
              · exact a
              · omega
            · exact hg i' (by omega))
          exact this
      refine ⟨fun w => b53 1 ⟨fun _ => Or.inl (by omega), fun _ => by decide⟩, fun w => ⟨by omega, by unfold rng; omega, by omega, ?_⟩⟩
      rw [show Int.toNat ((i : Int) - 1) = i - 1 by omega, tn, rfa 17 i (by decide), rfa 17 (i - 1) (by decide), e17]
      refine ⟨fun w2 => b53 0 ⟨fun z => absurd rfl z, fun z => ?_⟩, fun w2 => b53 1 ⟨fun _ => Or.inr (by omega), fun _ => by decide⟩⟩
      rcases z with z | z <;> omega
  refine ⟨(rf q S 0 30).toNat + 1, ?_⟩
  have := key (rf q S 0 30).toNat 0 (by have := hL.1; omega) (fun i' hi' => by omega)
  exact this
theorem pr_check {o : Nat} {V : Vt} {S : Me} {n : Int} (h : jJ o V S n) : PT_X11_check V o S (fun r S1 => PT_X12_check V (o + 42) S1 (fun r2 S2 => r2 = r ∧ jJ o V S2 n)) := by
  obtain ⟨c, hT⟩ := jJ_st h
  obtain ⟨hI, hg, hl⟩ := id hT
  obtain ⟨hV, hS, hP, hG, hL, hrL, hM, hrM, hA, hrA, hrO, hQ, hW, hH, hs⟩ := id hI
  unfold PT_X11_check
  refine p_fault hI hg (fun r br S' hc f2 f1 f8 e8 => ?_)
  have eR : rf (o + 42) S' = rf (o + 42) S := rf_c (fun b b1 b2 => f1 b (by omega) (by omega))
  refine p_checkR hV.2.1 (by rw [eR]; exact hrL) (by rw [eR]; exact hs) (fun r' br' S2 hc' g2 e2 => ?_)
  rw [eR] at hc' e2
  obtain ⟨u1, u2⟩ := ckR_u hc hc'
  subst u1 u2
  refine ⟨rfl, jJ_end (c := c) (R' := uR (rf (o + 42) S) 0 37 br) ?_ g2 e2⟩
  -- the log keeps the rule; Past of the check is nobody's
  obtain ⟨S3, e3⟩ : ∃ S3 : Me, S3 = sI S (o + 10) 8 br := ⟨_, rfl⟩
  have hT3 : jT o V S3 c (uR (rf (o + 42) S) 0 37 br) n := by
    refine jT_log hT (fun a ha => by rw [e3, sI_na (by omega)]) (by rw [e3, sI_2]) (fun a h1 _ => uR_a h1) (fun k hk => uR_k (by omega)) ?_ (rL_R (uR_k (by omega)) (uR_a (by decide)) (uR_a (by decide)) (uR_a (by decide)) hrL)
    have m : ∀ a, a ≠ o + 10 → S3.1 a = S.1 a := fun a ha => by rw [e3, sI_na ha]
    have u : ∀ a, a ≠ 0 → uR (rf (o + 42) S) 0 37 br a = rf (o + 42) S a := fun a ha => uR_a ha
    unfold jL
    rw [m (o + 10 + 1) (by omega), m (o + 10 + 2) (by omega), m (o + 10 + 3) (by omega), m (o + 10 + 4) (by omega), m (o + 10 + 5) (by omega), m (o + 10 + 6) (by omega), u 16 (by decide), u 17 (by decide), u 18 (by decide), u 19 (by decide), u 20 (by decide), u 21 (by decide), uR_e, uR_k (by omega), e3, sI_eq, sI_ne (by omega)]
    exact ⟨hL.1, rfl, hL.2.2⟩
  refine jT_c (S := S3) (fun a ha => ?_) (by rw [f2, e3, sI_2]) hT3
  by_cases ea : a = o + 10
  · subst ea
    funext j
    rw [e3, sI_at]
    by_cases ej : j = 8
    · rw [if_pos ej, ej, e8]
    · rw [if_neg ej, f8 j ej]
  · rw [f1 a (by omega) ea, e3, sI_na ea]

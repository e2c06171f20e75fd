/-! ===== PURE PART: pairs of methods: settings and what can be seen ===== -/
theorem jI_c {o : Nat} {V : Vt} {S S' : Me} {c : Nat → Nat} {R : Rm} (h1 : ∀ a, a < o + 17 ∨ o + 25 ≤ a ∧ a < o + 30 ∨ o + 31 ≤ a ∧ a < o + 42 ∨ o + 73 ≤ a → S'.1 a = S.1 a) (h2 : S'.2 = S.2) (h : jI o V S c R) : jI o V S' c R := by
  obtain ⟨hV, hS, hP, hG, hL, hrL, hM, hrM, hA, hrA, hrO, hQ, hW, hH, hs⟩ := h
  refine ⟨hV, ?_, jP_c (fun a a1 a2 => h1 a (by omega)) hP, hG, ?_, hrL, ?_, hrM, cA_S hA (fun i hi k _ => by have := (hA i hi).1.2.1; rw [h1 _ (by omega)]) (by rw [h2]), hrA, hrO, jQ_S hQ (h1 _ (by omega)) (h1 _ (by omega)) (by rw [h2]) (fun i hi => by rw [h2]), ?_, jH_S hH (fun a _ _ => by rw [h2]) (fun a a1 a2 => h1 a (by omega)) (fun e e1 _ => h1 e (by omega)), hs⟩
  · unfold jS
    rw [h1 o (by omega), h1 (o + 1) (by omega)]; exact hS
  · unfold jL
    rw [h1 (o + 10) (by omega), h1 (o + 10 + 1) (by omega), h1 (o + 10 + 2) (by omega), h1 (o + 10 + 3) (by omega), h1 (o + 10 + 4) (by omega), h1 (o + 10 + 5) (by omega), h1 (o + 10 + 6) (by omega)]; exact hL
  · unfold jM
    rw [h1 (o + 25 + 1) (by omega), h1 (o + 25 + 2) (by omega)]; exact hM
  · unfold jW
    rw [h1 (o + 28 + 4) (by omega)]; exact hW
theorem jT_c {o : Nat} {V : Vt} {S S' : Me} {c : Nat → Nat} {R : Rm} {n : Int} (h1 : ∀ a, a < o + 17 ∨ o + 25 ≤ a ∧ a < o + 30 ∨ o + 31 ≤ a ∧ a < o + 42 ∨ o + 73 ≤ a → S'.1 a = S.1 a) (h2 : S'.2 = S.2) (h : jT o V S c R n) : jT o V S' c R n := ⟨jI_c h1 h2 h.1, gB_c (h1 _ (by omega)) h.2.1, h.2.2⟩
theorem jT_fR {o : Nat} {V : Vt} {S S' : Me} {c : Nat → Nat} {R : Rm} {n : Int} (h : jT o V S c R n) (hf : fR (o + 42) S S') : jT o V S' c R n := jT_c (fun a ha => hf.2 a (by omega)) hf.1 h
theorem gB_n {o : Nat} {S : Me} {R : Rm} {n n' : Int} (h : gB o S R n) (h1 : n ≤ n') (h2 : n' ≤ 300000) : gB o S R n' := ⟨⟨h.1.1, by have := h.1.2.1; omega, h2⟩, h.2⟩
theorem jJ_n {o : Nat} {V : Vt} {S : Me} {n n' : Int} (h : jJ o V S n) (h1 : n ≤ n') (h2 : n' ≤ 300000) : jJ o V S n' := by
  obtain ⟨c, hI, hg, hl⟩ := h
  exact ⟨c, hI, gB_n hg h1 h2, hl⟩
/-- both came to the same: the end of a pair -/
theorem jJ_end {o : Nat} {V : Vt} {S S' : Me} {c : Nat → Nat} {R' : Rm} {n : Int} (h : jT o V S c R' n) (hf : fR (o + 42) S S') (hR : rf (o + 42) S' = R') : jJ o V S' n := by
  have h' := jT_fR h hf
  rw [← hR] at h'
  exact ⟨c, h'⟩
theorem jJ_st {o : Nat} {V : Vt} {S : Me} {n : Int} (h : jJ o V S n) : ∃ c, jT o V S c (rf (o + 42) S) n := h
/-- thrown is written -/
theorem th_0 {q : Nat} {S S1 : Me} {x : Int} (e : S1 = sI S q 0 x) : fR q S S1 ∧ rf q S1 = rf q S := by
  rw [e]
  exact ⟨fR_s0 fR_rf, rf_s0 (by unfold scr; omega)⟩
theorem isin_1 {v lo hi : Int} : (¬ isin v lo hi = 0) ↔ (lo ≤ v ∧ v ≤ hi) := by
  unfold isin
  split
  · rename_i h; exact ⟨fun _ => h, fun _ => by decide⟩
  · rename_i h; exact ⟨fun z => absurd rfl z, fun z => absurd z h⟩
theorem isin_0 {v lo hi : Int} : isin v lo hi = 0 ↔ ¬ (lo ≤ v ∧ v ≤ hi) := by
  rw [← isin_1]
  exact Decidable.not_not.symm
theorem p_within {V : Vt} {x lo hi : Int} {S : Me} {Q : Int → Me → Prop} (h1 : lo ≤ x ∧ x ≤ hi → Q 1 S) (h0 : ¬ (lo ≤ x ∧ x ≤ hi) → Q 0 S) : PT_X11_isWithin V x lo hi S Q := ⟨fun z => h0 (by omega), fun z => ⟨fun z2 => h0 (by omega), fun z2 => h1 (by omega)⟩⟩
theorem jI_set {o : Nat} {V : Vt} {S S' : Me} {c : Nat → Nat} {R R' : Rm} (h : jI o V S c R) (h1 : ∀ a, a ≠ o → a ≠ o + 1 → S'.1 a = S.1 a) (h2 : S'.2 = S.2) (ra : ∀ a, a ≠ 0 → a ≠ 1 → R' a = R a) (r0 : ∀ k, k ≠ 2 → k ≠ 3 → k ≠ 4 → k ≠ 5 → R' 0 k = R 0 k) (hS' : jS o S' R') (hs' : rS R') : jI o V S' c R' := by
  have hI := h
  obtain ⟨hV, hS, hP, hG, hL, hrL, hM, hrM, hA, hrA, hrO, hQ, hW, hH, hs⟩ := h
  obtain ⟨c1, c2, c3, c4, c5⟩ := com_q (S' := S') (R' := R') hI (fun i hi => by have := (hA i hi).1.2.1; exact h1 _ (by omega) (by omega)) h2 (fun a a1 a2 => h1 a (by omega) (by omega)) (fun a a1 a2 => ra a (by omega) (by omega)) (fun k hk => r0 k (by omega) (by omega) (by omega) (by omega)) (by rw [r0 6 (by decide) (by decide) (by decide) (by decide)]; exact Int.le_refl _)
  refine ⟨hV, hS', jP_R (r0 26 (by decide) (by decide) (by decide) (by decide)) (ra 13 (by decide) (by decide)) (ra 14 (by decide) (by decide)) (ra 15 (by decide) (by decide)) (r0 6 (by decide) (by decide) (by decide) (by decide)) (r0 10 (by decide) (by decide) (by decide) (by decide)) (jP_c (fun a a1 a2 => h1 a (by omega) (by omega)) hP), rG_R (r0 26 (by decide) (by decide) (by decide) (by decide)) (ra 13 (by decide) (by decide)) (ra 14 (by decide) (by decide)) (ra 15 (by decide) (by decide)) (r0 6 (by decide) (by decide) (by decide) (by decide)) hG, jL_R (r0 30 (by decide) (by decide) (by decide) (by decide)) (r0 37 (by decide) (by decide) (by decide) (by decide)) (ra 16 (by decide) (by decide)) (ra 17 (by decide) (by decide)) (ra 18 (by decide) (by decide)) (ra 19 (by decide) (by decide)) (ra 20 (by decide) (by decide)) (ra 21 (by decide) (by decide)) ?_, rL_R (r0 30 (by decide) (by decide) (by decide) (by decide)) (ra 17 (by decide) (by decide)) (ra 18 (by decide) (by decide)) (ra 19 (by decide) (by decide)) hrL, jM_R (ra 3 (by decide) (by decide)) (ra 2 (by decide) (by decide)) ?_, rM_R (ra 3 (by decide) (by decide)) (ra 2 (by decide) (by decide)) hrM, c1, c2, c3, c4, c5, jH_R (r0 13 (by decide) (by decide) (by decide) (by decide)) (ra 25 (by decide) (by decide)) (ra 26 (by decide) (by decide)) (ra 27 (by decide) (by decide)) (ra 28 (by decide) (by decide)) (jH_S hH (fun a _ _ => by rw [h2]) (fun a a1 a2 => h1 a (by omega) (by omega)) (fun e e1 _ => h1 e (by omega) (by omega))), hs'⟩
  · unfold jL
    rw [h1 (o + 10) (by omega) (by omega), h1 (o + 10 + 1) (by omega) (by omega), h1 (o + 10 + 2) (by omega) (by omega), h1 (o + 10 + 3) (by omega) (by omega), h1 (o + 10 + 4) (by omega) (by omega), h1 (o + 10 + 5) (by omega) (by omega), h1 (o + 10 + 6) (by omega) (by omega)]; exact hL
  · unfold jM
    rw [h1 (o + 25 + 1) (by omega) (by omega), h1 (o + 25 + 2) (by omega) (by omega)]; exact hM
theorem jT_set {o : Nat} {V : Vt} {S S' : Me} {c : Nat → Nat} {R R' : Rm} {n : Int} (h : jT o V S c R n) (h1 : ∀ a, a ≠ o → a ≠ o + 1 → S'.1 a = S.1 a) (h2 : S'.2 = S.2) (ra : ∀ a, a ≠ 0 → a ≠ 1 → R' a = R a) (r0 : ∀ k, k ≠ 2 → k ≠ 3 → k ≠ 4 → k ≠ 5 → R' 0 k = R 0 k) (hS' : jS o S' R') (hs' : rS R') : jT o V S' c R' n := by
  obtain ⟨hI, hg, hl⟩ := h
  refine ⟨jI_set hI h1 h2 ra r0 hS' hs', ?_, ?_⟩
  · unfold gB
    rw [r0 6 (by decide) (by decide) (by decide) (by decide), r0 7 (by decide) (by decide) (by decide) (by decide), r0 8 (by decide) (by decide) (by decide) (by decide), r0 9 (by decide) (by decide) (by decide) (by decide), r0 10 (by decide) (by decide) (by decide) (by decide), r0 26 (by decide) (by decide) (by decide) (by decide), ra 12 (by decide) (by decide), h1 (o + 28) (by omega) (by omega)]
    exact hg
  · rw [r0 6 (by decide) (by decide) (by decide) (by decide), r0 7 (by decide) (by decide) (by decide) (by decide)]
    exact hl
theorem pr_time {o : Nat} {V : Vt} {S : Me} {n x1 x2 : Int} (h : jJ o V S n) : PT_X11_time V o x1 x2 S (fun r S1 => PT_X12_time V (o + 42) x1 x2 S1 (fun r2 S2 => r2 = r ∧ jJ o V S2 n)) := by
  obtain ⟨c, hT⟩ := jJ_st h
  obtain ⟨hV, hS, hP, hG, hL, hrL, hM, hrM, hA, hrA, hrO, hQ, hW, hH, hs⟩ := hT.1
  have bad : ¬ ((0 ≤ x1 ∧ x1 ≤ 12) ∧ (1 ≤ x2 ∧ x2 ≤ 30)) → PT_X12_time V (o + 42) x1 x2 S (fun r2 S2 => r2 = -1 ∧ jJ o V S2 n) := by
    intro hb S1 e1
    obtain ⟨t1, t2⟩ := th_0 e1
    refine ⟨fun _ => ⟨rfl, jJ_end hT t1 t2⟩, fun z => ⟨fun z2 => ?_, fun _ => ⟨rfl, jJ_end hT t1 t2⟩⟩⟩
    exact absurd ⟨isin_1.mp z, isin_1.mp z2⟩ hb
  unfold PT_X11_time
  refine p_within (fun g1 => ⟨fun e => absurd e (by decide), fun _ => p_within (fun g2 => ⟨fun _ => ⟨by omega, by omega, fun S10 e10 => ?_⟩, fun e => absurd e (by decide)⟩) (fun g2 => ⟨fun e => absurd rfl e, fun _ => bad (fun z => g2 z.2)⟩)⟩) (fun g1 => ⟨fun _ => bad (fun z => g1 z.1), fun e => absurd rfl e⟩)
  have hT' : jT o V S10 c (uR (rf (o + 42) S) 1 x1.toNat x2) n := by
    refine jT_set hT (fun a _ h2 => by rw [e10, sI_na h2]) (by rw [e10, sI_2]) (fun a _ h2 => uR_a h2) (fun k _ _ _ _ => uR_k (by omega)) ⟨?_, fun r hr => ?_⟩ ⟨fun r hr => ?_, ?_⟩
    · rw [e10, sI_na (by omega), uR_k (by omega), uR_k (by omega), uR_k (by omega), uR_k (by omega), uR_k (by omega), uR_k (by omega), uR_k (by omega), uR_k (by omega)]
      exact hS.1
    · rw [e10, sI_at, uR_1, hS.2 r hr]
      by_cases z : r = x1.toNat
      · rw [if_pos z, if_pos ⟨rfl, z⟩]
      · rw [if_neg z, if_neg (fun y => z y.2)]
    · rw [uR_1]
      by_cases z : r = x1.toNat
      · rw [if_pos ⟨rfl, z⟩]; exact g2
      · rw [if_neg (fun y => z y.2)]; exact hs.1 r hr
    · rw [uR_k (by omega), uR_k (by omega), uR_k (by omega), uR_k (by omega)]
      exact hs.2
  intro S1 e1
  obtain ⟨t1, t2⟩ := th_0 e1
  have eR : rf (o + 42) S10 = rf (o + 42) S := rf_c (fun a a1 a2 => by rw [e10, sI_na (by omega)])
  refine ⟨fun z => absurd g1 (isin_0.mp z), fun _ => ⟨fun _ => ⟨by omega, by omega, fun S7 e7 => ?_⟩, fun z => absurd g2 (isin_0.mp z)⟩⟩
  refine ⟨?_, jJ_end hT' (by rw [e7]; exact fR_s t1 (by decide)) ?_⟩
  · rw [rfa (q := o + 42) (S := S1) 1 _ (by decide), t2, eR]
    exact (hS.2 _ (by omega)).symm
  · rw [e7, rf_w (by unfold scr; omega), t2, eR]
theorem pr_refresh {o : Nat} {V : Vt} {S : Me} {n x1 x2 : Int} (h : jJ o V S n) : PT_X11_refresh V o x1 x2 S (fun r S1 => PT_X12_refresh V (o + 42) x1 x2 S1 (fun r2 S2 => r2 = r ∧ jJ o V S2 n)) := by
  obtain ⟨c, hT⟩ := jJ_st h
  obtain ⟨hV, hS, hP, hG, hL, hrL, hM, hrM, hA, hrA, hrO, hQ, hW, hH, hs⟩ := hT.1
  have bad : ¬ ((x1 = 0 ∨ (20 ≤ x1 ∧ x1 ≤ 400)) ∧ (1 ≤ x2 ∧ x2 ≤ 8)) → PT_X12_refresh V (o + 42) x1 x2 S (fun r2 S2 => r2 = -1 ∧ jJ o V S2 n) := by
    intro hb S1 e1
    obtain ⟨t1, t2⟩ := th_0 e1
    have b23 : (x1 = 0 ∨ (20 ≤ x1 ∧ x1 ≤ 400)) → B_X12_refresh_23 V (o + 42) x1 x2 S1 (fun r2 S2 => r2 = -1 ∧ jJ o V S2 n) := fun z => ⟨fun z2 => absurd ⟨z, isin_1.mp z2⟩ hb, fun _ => ⟨rfl, jJ_end hT t1 t2⟩⟩
    exact ⟨fun z => b23 (Or.inl z), fun z => ⟨fun _ => ⟨rfl, jJ_end hT t1 t2⟩, fun z2 => b23 (Or.inr (isin_1.mp z2))⟩⟩
  have good : (x1 = 0 ∨ (20 ≤ x1 ∧ x1 ≤ 400)) → B_X11_refresh_16 V o x1 x2 S (fun r S1 => PT_X12_refresh V (o + 42) x1 x2 S1 (fun r2 S2 => r2 = r ∧ jJ o V S2 n)) := by
    intro g1
    refine p_within (fun g2 => ⟨fun _ S4 e4 S5 e5 => ?_, fun e => absurd e (by decide)⟩) (fun g2 => ⟨fun e => absurd rfl e, fun _ => bad (fun z => g2 z.2)⟩)
    have hT' : jT o V S5 c (uR (uR (rf (o + 42) S) 0 2 x1) 0 3 x2) n := by
      refine jT_set hT (fun a h1 _ => by rw [e5, sI_na h1, e4, sI_na h1]) (by rw [e5, sI_2, e4, sI_2]) (fun a h1 _ => by rw [uR_a h1, uR_a h1]) (fun k h2 h3 _ _ => by rw [uR_k (by omega), uR_k (by omega)]) ⟨?_, fun r hr => ?_⟩ ⟨fun r hr => ?_, ?_⟩
      · rw [e5, sI_ne (by omega), sI_ne (by omega), sI_eq, sI_ne (by omega), sI_ne (by omega), sI_ne (by omega), sI_ne (by omega), sI_ne (by omega), e4, sI_ne (by omega), sI_eq, sI_ne (by omega), sI_ne (by omega), sI_ne (by omega), sI_ne (by omega), sI_ne (by omega), uR_k (by omega), uR_k (by omega), uR_k (a := 0) (k := 3) (b := 0) (j := 2) (by omega), uR_e, uR_e, uR_k (by omega), uR_k (by omega), uR_k (by omega), uR_k (by omega), uR_k (by omega), uR_k (by omega), uR_k (by omega), uR_k (by omega), uR_k (by omega), uR_k (by omega)]
        exact ⟨hS.1.1, rfl, rfl, hS.1.2.2.2⟩
      · rw [e5, sI_na (by omega), e4, sI_na (by omega), uR_k (by omega), uR_k (by omega)]; exact hS.2 r hr
      · rw [uR_k (by omega), uR_k (by omega)]; exact hs.1 r hr
      · rw [uR_e, uR_k (a := 0) (k := 3) (b := 0) (j := 2) (by omega), uR_e, uR_k (by omega), uR_k (by omega), uR_k (by omega), uR_k (by omega)]
        exact ⟨g1, g2, hs.2.2.2⟩
    intro S1 e1
    obtain ⟨t1, t2⟩ := th_0 e1
    have eR : rf (o + 42) S5 = rf (o + 42) S := rf_c (fun a a1 a2 => by rw [e5, sI_na (by omega), e4, sI_na (by omega)])
    have b23 : B_X12_refresh_23 V (o + 42) x1 x2 S1 (fun r2 S2 => r2 = 0 ∧ jJ o V S2 n) := by
      refine ⟨fun _ T2 u2 T3 u3 => ⟨rfl, jJ_end hT' (by rw [u3]; refine fR_s0 ?_; rw [u2]; exact fR_s0 t1) ?_⟩, fun z => absurd g2 (isin_0.mp z)⟩
      rw [u3, rf_w0 (by unfold scr; omega), u2, rf_w0 (by unfold scr; omega), t2, eR]
    refine ⟨fun _ => b23, fun z => ⟨fun z2 => ?_, fun _ => b23⟩⟩
    rcases g1 with g | g
    · exact absurd g z
    · exact absurd g (isin_0.mp z2)
  unfold PT_X11_refresh
  exact ⟨fun z => good (Or.inl z), fun z => p_within (fun g => ⟨fun e => absurd e (by decide), fun _ => good (Or.inr g)⟩) (fun g => ⟨fun _ => bad (fun w => w.1.elim z g), fun e => absurd rfl e⟩)⟩
theorem pr_order {o : Nat} {V : Vt} {S : Me} {n x1 x2 : Int} (h : jJ o V S n) : PT_X11_order V o x1 x2 S (fun r S1 => PT_X12_order V (o + 42) x1 x2 S1 (fun r2 S2 => r2 = r ∧ jJ o V S2 n)) := by
  obtain ⟨c, hT⟩ := jJ_st h
  obtain ⟨hV, hS, hP, hG, hL, hrL, hM, hrM, hA, hrA, hrO, hQ, hW, hH, hs⟩ := hT.1
  have bad : ¬ ((0 ≤ x1 ∧ x1 ≤ 2) ∧ (1 ≤ x2 ∧ x2 ≤ 20)) → PT_X12_order V (o + 42) x1 x2 S (fun r2 S2 => r2 = -1 ∧ jJ o V S2 n) := by
    intro hb S1 e1
    obtain ⟨t1, t2⟩ := th_0 e1
    refine ⟨fun _ => ⟨rfl, jJ_end hT t1 t2⟩, fun z => ⟨fun z2 => ?_, fun _ => ⟨rfl, jJ_end hT t1 t2⟩⟩⟩
    exact absurd ⟨isin_1.mp z, isin_1.mp z2⟩ hb
  unfold PT_X11_order
  refine p_within (fun g1 => ⟨fun e => absurd e (by decide), fun _ => p_within (fun g2 => ⟨fun _ S4 e4 S5 e5 => ?_, fun e => absurd e (by decide)⟩) (fun g2 => ⟨fun e => absurd rfl e, fun _ => bad (fun z => g2 z.2)⟩)⟩) (fun g1 => ⟨fun _ => bad (fun z => g1 z.1), fun e => absurd rfl e⟩)
  have hT' : jT o V S5 c (uR (uR (rf (o + 42) S) 0 4 x1) 0 5 x2) n := by
    refine jT_set hT (fun a h1 _ => by rw [e5, sI_na h1, e4, sI_na h1]) (by rw [e5, sI_2, e4, sI_2]) (fun a h1 _ => by rw [uR_a h1, uR_a h1]) (fun k _ _ h4 h5 => by rw [uR_k (by omega), uR_k (by omega)]) ⟨?_, fun r hr => ?_⟩ ⟨fun r hr => ?_, ?_⟩
    · rw [e5, sI_ne (by omega), sI_ne (by omega), sI_ne (by omega), sI_ne (by omega), sI_ne (by omega), sI_eq, sI_ne (by omega), sI_ne (by omega), e4, sI_ne (by omega), sI_ne (by omega), sI_ne (by omega), sI_ne (by omega), sI_eq, sI_ne (by omega), sI_ne (by omega)]
      rw [uR_1, uR_1, uR_1, uR_1, uR_1, uR_1, uR_1, uR_1, uR_1, uR_1, uR_1, uR_1, uR_1, uR_1, uR_1, uR_1]
      simp only [Nat.reduceEqDiff, and_false, and_true, if_false, if_true, and_self]
      exact ⟨hS.1.1, hS.1.2.1, hS.1.2.2.1, hS.1.2.2.2.1, trivial, trivial, hS.1.2.2.2.2.2.2⟩
    · rw [e5, sI_na (by omega), e4, sI_na (by omega), uR_k (by omega), uR_k (by omega)]; exact hS.2 r hr
    · rw [uR_k (by omega), uR_k (by omega)]; exact hs.1 r hr
    · rw [uR_e, uR_k (a := 0) (k := 5) (b := 0) (j := 4) (by omega), uR_e, uR_k (by omega), uR_k (by omega), uR_k (by omega), uR_k (by omega)]
      exact ⟨hs.2.1, hs.2.2.1, g1, g2⟩
  intro S1 e1
  obtain ⟨t1, t2⟩ := th_0 e1
  have eR : rf (o + 42) S5 = rf (o + 42) S := rf_c (fun a a1 a2 => by rw [e5, sI_na (by omega), e4, sI_na (by omega)])
  refine ⟨fun z => absurd g1 (isin_0.mp z), fun _ => ⟨fun _ T2 u2 T3 u3 => ⟨rfl, jJ_end hT' (by rw [u3]; refine fR_s0 ?_; rw [u2]; exact fR_s0 t1) ?_⟩, fun z => absurd g2 (isin_0.mp z)⟩⟩
  rw [u3, rf_w0 (by unfold scr; omega), u2, rf_w0 (by unfold scr; omega), t2, eR]

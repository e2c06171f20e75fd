/-! ===== PURE PART: pairs keep, copy ===== -/
theorem xr_all : ∀ k : Fin 64, (0 ≤ bXor (Int.tdiv (k.val : Int) 16) (Int.tmod (Int.tmod (k.val : Int) 16) 4) ∧ bXor (Int.tdiv (k.val : Int) 16) (Int.tmod (Int.tmod (k.val : Int) 16) 4) < 4) ∧ 0 ≤ Int.tmod (k.val : Int) 16 ∧ Int.tmod (k.val : Int) 16 < 16 := by decide +kernel
theorem xr_b {k : Int} (h0 : 0 ≤ k) (h1 : k ≤ 63) : (0 ≤ bXor (Int.tdiv k 16) (Int.tmod (Int.tmod k 16) 4) ∧ bXor (Int.tdiv k 16) (Int.tmod (Int.tmod k 16) 4) < 4) ∧ 0 ≤ Int.tmod k 16 ∧ Int.tmod k 16 < 16 := by
  have := xr_all ⟨k.toNat, by omega⟩
  rwa [show ((⟨k.toNat, by omega⟩ : Fin 64).val : Int) = k by simp; omega] at this
/-- where the k-th row of all begins -/
def rwA (k : Int) : Int := 64 * Int.tmod k 16 + 16 * bXor (Int.tdiv k 16) (Int.tmod (Int.tmod k 16) 4)
/-- what keep puts on a shelf -/
def kpF (R : Rm) (wh k : Int) : Nat → Int := fun i => if wh = 4 then R 1 i else R 3 (rwA k + (i : Int)).toNat - 128
def kpZ (wh : Int) : Int := if wh = 3 then 16 else if wh = 4 then 13 else 0
theorem p_keepR {V : Vt} {q d : Nat} {S : Me} {x1 x2 x3 : Int} {Q : Int → Me → Prop} (hX : fX12 V q) (hd : d < 8) (ed : x1 = (d : Int)) (hg : x2 = 0 ∨ (x2 = 1 ∧ 0 ≤ x3 ∧ x3 < rf q S 0 13) ∨ (x2 = 3 ∧ 0 ≤ x3 ∧ x3 ≤ 63) ∨ x2 = 4) (hm : ∀ a, a < 1024 → 0 ≤ rf q S 3 a ∧ rf q S 3 a ≤ 255) (k : ∀ S', fR q S S' → rf q S' = kpR (rf q S) d x2 x3 (kpZ x2) (kpF (rf q S) x2 x3) (kpZ x2).toNat → Q 0 S') : PT_X12_keep V q x1 x2 x3 S Q := by
  intro S0 e0
  obtain ⟨t1, t2⟩ := th_0 e0
  have et : x1.toNat = d := by omega
  have hz : 0 ≤ kpZ x2 ∧ kpZ x2 ≤ 16 := by unfold kpZ; split; omega; split <;> omega
  have z4 : x2 = 4 → kpZ x2 = 13 := fun w => by unfold kpZ; rw [if_neg (by omega), if_pos w]
  have z03 : ¬ x2 = 4 → ¬ x2 = 3 → kpZ x2 = 0 := fun w w2 => by unfold kpZ; rw [if_neg w2, if_neg w]
  have loop : ∀ (m i : Nat) (S2 : Me), (i : Int) + (m : Int) = kpZ x2 → fR q S S2 → rf q S2 = kpR (rf q S) d x2 x3 (kpZ x2) (kpF (rf q S) x2 x3) i → B_X12_keep_109 V q x1 x2 x3 Q (m + 1) (i : Int) S2 := by
    intro m
    induction m with
    | zero =>
      intro i S2 e2 g1 g2
      unfold B_X12_keep_109
      refine ⟨by omega, ?_⟩
      rw [rfa 26 _ (by decide), g2, et, kpR_26, if_pos rfl]
      refine ⟨fun _ => k S2 g1 (by rw [g2, show (kpZ x2).toNat = i by omega]), fun z => by omega⟩
    | succ m ih =>
      intro i S2 e2 g1 g2
      unfold B_X12_keep_109
      refine ⟨by omega, ?_⟩
      have fin : ∀ w : Int, w = kpF (rf q S) x2 x3 i → B_X12_keep_169 V q x1 x2 x3 (B_X12_keep_109 V q x1 x2 x3 Q (m + 1)) (i : Int) (some (q + 28)) (60 * x1 + (i : Int)) w S2 Q := by
        intro w hw
        refine ⟨q + 28, rfl, fX12_shelfRow_t hX, ⟨by omega, by rw [fX12_shelfRow_n hX]; omega⟩, fun S3 e3 => ⟨by unfold rng; omega, ?_⟩⟩
        have := ih (i + 1) S3 (by omega) (by rw [e3]; exact fR_s g1 (by decide)) (by rw [e3, rf_w (by unfold scr; omega), g2, show Int.toNat (60 * x1 + (i : Int)) = 60 * d + i by omega, hw, kpR_s])
        exact this
      rw [rfa 26 _ (by decide), g2, et, kpR_26, if_pos rfl]
      refine ⟨fun z => by omega, fun _ => ⟨by unfold rng; omega, by unfold rng; omega, fun z => ?_, fun z => ?_⟩⟩
      · have h3 : x2 = 3 := by
          refine Classical.byContradiction fun w => ?_
          have := z03 z w
          omega
        have hk : 0 ≤ x3 ∧ x3 ≤ 63 := by omega
        obtain ⟨a1, a2⟩ := xr_b hk.1 hk.2
        have i16 : (i : Int) < 16 := by omega
        refine ⟨by unfold rng; omega, by unfold rng; omega, by unfold rng; omega, by unfold rng; omega, by omega, ?_⟩
        have ea : 64 * Int.tmod x3 16 + 16 * bXor (Int.tdiv x3 16) (Int.tmod (Int.tmod x3 16) 4) + (i : Int) = rwA x3 + (i : Int) := rfl
        rw [ea, rfa 3 _ (by decide), g2, kpR_o (by decide)]
        have hb : 0 ≤ rwA x3 + (i : Int) ∧ rwA x3 + (i : Int) < 1024 := by rw [← ea]; omega
        have := hm (rwA x3 + (i : Int)).toNat (by omega)
        refine ⟨by unfold rng; omega, fin _ ?_⟩
        unfold kpF
        rw [if_neg z]
      · have := z4 z
        refine ⟨by omega, ?_⟩
        rw [tn, rfa 1 _ (by decide), g2, kpR_o (by decide)]
        refine fin _ ?_
        unfold kpF
        rw [if_pos z]
  have b105 : ∀ S1 : Me, fR q S S1 → rf q S1 = uR (uR (rf q S) 25 d x2) 27 d x3 → B_X12_keep_105 V q x1 x2 x3 (some (q + 26)) x1 (kpZ x2) S1 Q := by
    intro S1 g1 g2
    refine ⟨q + 26, rfl, fX12_shelfSize_t hX, ⟨by omega, by rw [fX12_shelfSize_n hX]; omega⟩, fun S20 e20 => ⟨(kpZ x2).toNat + 1, ?_⟩⟩
    have := loop (kpZ x2).toNat 0 S20 (by omega) (by rw [e20]; exact fR_s g1 (by decide)) ?_
    · exact this
    · rw [e20, rf_w (by unfold scr; omega), g2, et]
      funext a j
      rw [uR_1, uR_1, uR_1]
      unfold kpR
      by_cases q1 : a = 26 ∧ j = d
      · rw [if_pos q1, if_neg (by omega), if_neg (by omega), if_pos q1]
      · rw [if_neg q1]
        by_cases q2 : a = 27 ∧ j = d
        · rw [if_pos q2, if_neg (by omega), if_pos q2]
        · rw [if_neg q2]
          by_cases q3 : a = 25 ∧ j = d
          · rw [if_pos q3, if_pos q3]
          · rw [if_neg q3, if_neg q3, if_neg q2, if_neg q1, if_neg (by omega)]
  have good : ∀ S1 : Me, fR q S S1 → rf q S1 = rf q S → B_X12_keep_51 V q x1 x2 x3 S1 Q := by
    intro S1 g1 g2
    refine ⟨fun _ => ⟨by omega, fun S23 e23 => ⟨by omega, fun S25 e25 => ?_⟩⟩, fun z => absurd z (by decide)⟩
    have f25 : fR q S S25 := by rw [e25]; refine fR_s ?_ (by decide); rw [e23]; exact fR_s g1 (by decide)
    have r25 : rf q S25 = uR (uR (rf q S) 25 d x2) 27 d x3 := by rw [e25, rf_w (by unfold scr; omega), e23, rf_w (by unfold scr; omega), g2, et]
    have b := b105 S25 f25 r25
    unfold kpZ at b
    refine ⟨fun n3 => ⟨fun n4 => ?_, fun e4 => ?_⟩, fun e3 => ?_⟩
    · rw [if_neg n3, if_neg n4] at b; exact b
    · rw [if_neg n3, if_pos e4] at b; exact b
    · rw [if_pos e3] at b; exact b
  have b46 : x2 = 4 → B_X12_keep_46 V q x1 x2 x3 S0 Q := fun e4 => ⟨fun w => absurd e4 w, fun _ => good S0 t1 t2⟩
  have b29 : (x2 = 3 ∧ 0 ≤ x3 ∧ x3 ≤ 63) ∨ x2 = 4 → B_X12_keep_29 V q x1 x2 x3 S0 Q := fun w => ⟨fun n3 => b46 (by omega), fun e3 => ⟨fun _ => good S0 t1 t2, fun z => absurd (by omega) (isin_0.mp z)⟩⟩
  refine p_isShelf (fun _ => ⟨fun e => absurd e (by decide), fun _ => ⟨fun _ => good S0 t1 t2, fun n0 => ⟨fun n1 => b29 (by omega), fun e1 => p_isAsk ?_ ?_⟩⟩⟩) (fun g => absurd (by omega) g)
  · exact fun _ => ⟨fun _ => good S0 t1 t2, fun e => absurd e (by decide)⟩
  · rw [t2]
    exact fun w => absurd (by omega) w
theorem p_keepB {V : Vt} {q : Nat} {S : Me} {x1 x2 x3 : Int} {Q : Int → Me → Prop} (hg : ¬ ((0 ≤ x1 ∧ x1 < 8) ∧ (x2 = 0 ∨ (x2 = 1 ∧ 0 ≤ x3 ∧ x3 < rf q S 0 13) ∨ (x2 = 3 ∧ 0 ≤ x3 ∧ x3 ≤ 63) ∨ x2 = 4))) (k : ∀ S', fR q S S' → rf q S' = rf q S → Q (-1) S') : PT_X12_keep V q x1 x2 x3 S Q := by
  intro S0 e0
  obtain ⟨t1, t2⟩ := th_0 e0
  have b55 : B_X12_keep_55 V q x1 x2 x3 S0 Q := ⟨fun w => absurd rfl w, fun _ => k S0 t1 t2⟩
  have b46 : ¬ x2 = 4 → B_X12_keep_46 V q x1 x2 x3 S0 Q := fun w => ⟨fun _ => b55, fun e => absurd e w⟩
  refine p_isShelf (fun g8 => ⟨fun e => absurd e (by decide), fun _ => ?_⟩) (fun _ => ⟨fun _ => b55, fun e => absurd rfl e⟩)
  have hg : ¬ (x2 = 0 ∨ (x2 = 1 ∧ 0 ≤ x3 ∧ x3 < rf q S 0 13) ∨ (x2 = 3 ∧ 0 ≤ x3 ∧ x3 ≤ 63) ∨ x2 = 4) := fun w => hg ⟨g8, w⟩
  have b29 : B_X12_keep_29 V q x1 x2 x3 S0 Q := ⟨fun _ => b46 (by omega), fun e3 => ⟨fun z => absurd (isin_1.mp z) (by omega), fun _ => b46 (by omega)⟩⟩
  refine ⟨fun e => absurd (Or.inl e) hg, fun n0 => ⟨fun n1 => b29, fun e1 => p_isAsk ?_ (fun _ => ⟨fun e => absurd rfl e, fun _ => b29⟩)⟩⟩
  rw [t2]
  exact fun w => absurd (Or.inr (Or.inl ⟨e1, w⟩)) hg
theorem pr_keep {o : Nat} {V : Vt} {S : Me} {n x1 x2 x3 : Int} (h : jJ o V S n) : PT_X11_keep V o x1 x2 x3 S (fun r V1 S1 => PT_X12_keep V1 (o + 42) x1 x2 x3 S1 (fun r2 S2 => r2 = r ∧ jJ o V1 S2 n)) := by
  obtain ⟨c, hT⟩ := jJ_st h
  obtain ⟨hV, hS, hP, hG, hL, hrL, hM, hrM, hA, hrA, hrO, hQ, hW, hH, hs⟩ := hT.1
  have h73 := hV.2.2.1
  have bad : ¬ ((0 ≤ x1 ∧ x1 < 8) ∧ (x2 = 0 ∨ (x2 = 1 ∧ 0 ≤ x3 ∧ x3 < rf (o + 42) S 0 13) ∨ (x2 = 3 ∧ 0 ≤ x3 ∧ x3 ≤ 63) ∨ x2 = 4)) → PT_X12_keep V (o + 42) x1 x2 x3 S (fun r2 S2 => r2 = -1 ∧ jJ o V S2 n) := fun w => p_keepB w (fun S' f e => ⟨rfl, jJ_end hT f e⟩)
  unfold PT_X11_keep
  refine p_shelf hH (fun d ed hd => ⟨fun _ => ?_, fun e => by cases e⟩) (fun g => ⟨fun e => absurd rfl e, fun _ => bad (fun w => g w.1)⟩)
  have t7 := hV.2.2.2.2 d hd
  -- the shelf is filled
  have put : ∀ (V' : Vt) (S' : Me), exV V V' → (x2 = 0 ∨ (x2 = 1 ∧ 0 ≤ x3 ∧ x3 < rf (o + 42) S 0 13) ∨ (x2 = 3 ∧ 0 ≤ x3 ∧ x3 ≤ 63) ∨ x2 = 4) → jT o V' S' c (kpR (rf (o + 42) S) d x2 x3 (kpZ x2) (kpF (rf (o + 42) S) x2 x3) (kpZ x2).toNat) n → rf (o + 42) S' = rf (o + 42) S → PT_X12_keep V' (o + 42) x1 x2 x3 S' (fun r2 S2 => r2 = 0 ∧ jJ o V' S2 n) := by
    intro V' S' ex hg hT' eR
    refine p_keepR (fX12_x ex hV.2.1) hd ed (by rw [eR]; exact hg) (by rw [eR]; exact hrM.1) (fun S2 f2 e2 => ⟨rfl, jJ_end hT' f2 (by rw [e2, eR])⟩)
  have rfo : ∀ S' : Me, (∀ b, b ≠ o + 34 + d → b < V.1 → S'.1 b = S.1 b) → rf (o + 42) S' = rf (o + 42) S := fun S' hf => rf_c (fun b b1 b2 => hf b (by omega) (by omega))
  refine ⟨fun e0 => ⟨o + 34 + d, rfl, t7, p_hold (Or.inl rfl) (fun S' f1 f2 f3 f4 => ?_)⟩, fun e1 => ?_, fun e2 => bad (by omega), fun e3 => ?_, fun e4 => ⟨by rw [hV.1.2.1.2.2.2]; rfl, fun U eU V' eV S21 e21 => ?_⟩, fun e5 => bad (by omega)⟩
  · refine put V S' (exV.rf V) (Or.inl e0) (jT_k hT (exV.rf V) hd (by unfold kpZ; split; omega; split <;> omega) (fun b _ b2 => f1 b b2) (Or.inl ⟨e0, f2, f3⟩)) (rfo S' (fun b b1 _ => (f1 b b1).1))
  · refine p_qfind hA hrA hQ.1.1 (fun k ek hk => ⟨fun _ => ⟨o + 34 + d, rfl, t7, p_hold (Or.inl rfl) (fun S' f1 f2 f3 f4 => ?_)⟩, fun e => by cases e⟩) (fun g => ⟨fun e => absurd rfl e, fun _ => bad (by omega)⟩)
    refine put V S' (exV.rf V) (Or.inr (Or.inl (by omega))) (jT_k hT (exV.rf V) hd (by unfold kpZ; split; omega; split <;> omega) (fun b _ b2 => f1 b b2) (Or.inr (Or.inl ⟨e1, k, ek, hk, f2, f3⟩))) (rfo S' (fun b b1 _ => (f1 b b1).1))
  · refine p_within (fun g => ⟨fun _ => ?_, fun e => absurd e (by decide)⟩) (fun g => ⟨fun e => absurd rfl e, fun _ => bad (by omega)⟩)
    intro U eU V' eV S11 e11
    subst eU eV e11
    obtain ⟨a1, a2⟩ := xr_b g.1 g.2
    have ex := exV.nw U 12 (Int.toNat 16)
    have kz : kpZ x2 = 16 := by unfold kpZ; rw [if_pos e3]
    have eb : (Int.tmod x3 16 * 4 + bXor (Int.tdiv x3 16) (Int.tmod (Int.tmod x3 16) 4)) * 16 = rwA x3 := by unfold rwA; omega
    rw [eb]
    have hrw : 0 ≤ rwA x3 ∧ rwA x3 ≤ 1008 := by unfold rwA; omega
    have hu : ∀ b, b ≠ U.1 → (nS U S).1 b = S.1 b := fun b hb => (nS_o hb).1
    refine ⟨by unfold rng; omega, by unfold rng; omega, by unfold rng; omega, 17, ?_⟩
    have key : ∀ (m i : Nat) (S2 : Me), i + m = 16 → S2.2 = (nS U S).2 → (∀ b, b ≠ U.1 → S2.1 b = (nS U S).1 b) → (∀ j, j < i → S2.1 U.1 j = rf (o + 42) S 3 (rwA x3 + (j : Int)).toNat - 128) → B_X4_signedRow_22 (nV U 12 (Int.toNat 16)) (o + 25) (Int.tdiv x3 16) (Int.tmod x3 16) (fun t5 V S4 => ∃ z11 : Nat, some (o + 34 + d) = some z11 ∧ V.2.1 z11 = 7 ∧ PT_X8_hold V z11 none t5 1 S4 (fun S10 => PT_X12_keep V (o + 42) x1 x2 x3 S10 (fun r2 S2 => r2 = 0 ∧ jJ o V S2 n))) (m + 1) (some U.1) (rwA x3) (i : Int) S2 := by
      intro m
      induction m with
      | zero =>
        intro i S2 e2 g1 g2 g3
        unfold B_X4_signedRow_22
        refine ⟨fun _ => ⟨o + 34 + d, rfl, ex.ty (by omega) t7, p_hold (Or.inr rfl) (fun S' f1 f2 f3 f4 => ?_)⟩, fun z => by omega⟩
        have fo : ∀ b, b < U.1 → b ≠ o + 34 + d → S'.1 b = S.1 b ∧ S'.2 b = S.2 b := fun b b1 b2 => ⟨by rw [(f1 b b2).1, g2 b (by omega), hu b (by omega)], by rw [(f1 b b2).2, g1]; exact (nS_o (by omega)).2⟩
        refine put _ S' ex (Or.inr (Or.inr (Or.inl ⟨e3, g.1, g.2⟩))) (jT_k hT ex hd (by omega) fo (Or.inr (Or.inr ⟨Or.inl e3, f2, f3, by rw [nV_1]; omega, nV_t, by rw [nV_l, kz]; rfl, by rw [f4, if_pos e3], fun j hj => ?_⟩))) (rfo S' (fun b b1 b2 => (fo b b2 b1).1))
        rw [(f1 U.1 (by omega)).1, g3 j (by omega)]
        unfold kpF
        rw [if_neg (by omega)]
      | succ m ih =>
        intro i S2 e2 g1 g2 g3
        unfold B_X4_signedRow_22
        have hv : S2.1 (o + 25 + 1) (Int.toNat (rwA x3 + (i : Int))) = rf (o + 42) S 3 (rwA x3 + (i : Int)).toNat := by rw [g2 _ (by omega), hu _ (by omega), hM.1 _ (by omega)]
        have hr := hrM.1 (rwA x3 + (i : Int)).toNat (by omega)
        rw [hv]
        refine ⟨fun z => by omega, fun _ => ⟨by unfold rng; omega, by omega, by unfold rng; omega, U.1, rfl, nV_t, ⟨by omega, by rw [nV_l]; omega⟩, fun S8 e8 => ⟨by unfold rng; omega, ?_⟩⟩⟩
        rw [tn] at e8
        have := ih (i + 1) S8 (by omega) (by rw [e8, sI_2, g1]) (fun b hb => by rw [e8, sI_na hb, g2 b hb]) (fun j hj => by
          rw [e8, sI_at]
          by_cases w : j = i
          · rw [if_pos w, w]
          · rw [if_neg w, g3 j (by omega)])
        exact this
    exact key 16 0 (nS U S) (by omega) rfl (fun b _ => rfl) (fun j hj => by omega)
  · subst eU eV e21
    have ex := exV.nw U 12 (U.2.2.1 (o + 1))
    have e13 : U.2.2.1 (o + 1) = 13 := hV.1.2.1.2.2.2
    have kz : kpZ x2 = 13 := by unfold kpZ; rw [if_neg (by omega), if_pos e4]
    have io : ∀ b, b ≠ U.1 → (iS U S (S.1 (o + 1))).1 b = S.1 b ∧ (iS U S (S.1 (o + 1))).2 b = S.2 b := fun b hb => by
      unfold iS
      exact ⟨funext fun j => if_neg hb, funext fun j => if_neg hb⟩
    refine ⟨o + 34 + d, rfl, ex.ty (by omega) t7, p_hold (Or.inl rfl) (fun S' f1 f2 f3 f4 => ?_)⟩
    have fo : ∀ b, b < U.1 → b ≠ o + 34 + d → S'.1 b = S.1 b ∧ S'.2 b = S.2 b := fun b b1 b2 => ⟨(f1 b b2).1.trans (io b (by omega)).1, (f1 b b2).2.trans (io b (by omega)).2⟩
    refine put _ S' ex (Or.inr (Or.inr (Or.inr e4))) (jT_k hT ex hd (by omega) fo (Or.inr (Or.inr ⟨Or.inr e4, f2, f3, by rw [nV_1]; omega, nV_t, by rw [nV_l, e13, kz]; rfl, by rw [f4, if_neg (by omega)], fun j hj => ?_⟩))) (rfo S' (fun b b1 b2 => (fo b b2 b1).1))
    rw [(f1 U.1 (by omega)).1]
    have : (iS U S (S.1 (o + 1))).1 U.1 j = S.1 (o + 1) j := by unfold iS; exact if_pos rfl
    rw [this]
    unfold kpF
    rw [if_pos e4, hS.2 j (by omega)]
theorem p_span {V : Vt} {e : Nat} {x n L : Int} {S : Me} {Q : Int → Me → Prop} (ht : V.2.1 e = 12) (hL : (V.2.2.1 e : Int) = L) (h60 : L ≤ 60) (h1 : 0 ≤ n ∧ 0 ≤ x ∧ x ≤ L ∧ n ≤ L - x → Q 1 S) (h0 : ¬ (0 ≤ n ∧ 0 ≤ x ∧ x ≤ L ∧ n ≤ L - x) → Q 0 S) : PT_X11_hasSpan V (some e) x n S Q := by
  unfold PT_X11_hasSpan
  refine ⟨fun z => h0 (by omega), fun z => ⟨e, rfl, ht, ?_⟩⟩
  rw [hL]
  exact p_within (fun g => ⟨fun w => absurd w (by decide), fun _ => ⟨by unfold rng; omega, fun w => h0 (by omega), fun w => h1 (by omega)⟩⟩) (fun g => ⟨fun _ => h0 (by omega), fun w => absurd rfl w⟩)
theorem p_places {V : Vt} {q : Nat} {d x n : Int} {S : Me} {Q : Int → Me → Prop} (hd : 0 ≤ d ∧ d < 8) (h60 : 0 ≤ rf q S 26 d.toNat ∧ rf q S 26 d.toNat ≤ 60) (h1 : 0 ≤ n ∧ 0 ≤ x ∧ x ≤ rf q S 26 d.toNat ∧ n ≤ rf q S 26 d.toNat - x → Q 1 S) (h0 : ¬ (0 ≤ n ∧ 0 ≤ x ∧ x ≤ rf q S 26 d.toNat ∧ n ≤ rf q S 26 d.toNat - x) → Q 0 S) : PT_X12_hasPlaces V q d x n S Q := by
  unfold PT_X12_hasPlaces
  rw [rfa 26 _ (by decide)]
  exact ⟨fun z => h0 (by omega), fun z => ⟨fun z2 => h0 (by omega), fun z2 => ⟨hd, fun z3 => h0 (by omega), fun z3 => ⟨hd, by unfold rng; omega, fun z4 => h0 (by omega), fun z4 => h1 (by omega)⟩⟩⟩⟩

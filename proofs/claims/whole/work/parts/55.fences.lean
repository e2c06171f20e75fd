/-! ===== PURE PART: Queue.finishFences ===== -/
def fE (o : Nat) (c : Nat → Nat) (n : Nat) (S S' : Me) : Prop := (∀ a k, ¬ (a = o + 28 ∧ (k = 7 ∨ k = 8)) → (k ≠ 6 ∨ ∀ i, i < n → a ≠ c i) → S'.1 a k = S.1 a k) ∧ ∀ a k, ¬ (a = o + 28 ∧ (k = 4 ∨ k = 5)) → (k ≠ 8 ∨ ∀ i, i < n → a ≠ c i) → S'.2 a k = S.2 a k
theorem fE_t {o : Nat} {c : Nat → Nat} {n : Nat} {S S1 S2 : Me} (h : fE o c n S S1) (h' : fE o c n S1 S2) : fE o c n S S2 := ⟨fun a k h1 h2 => (h'.1 a k h1 h2).trans (h.1 a k h1 h2), fun a k h1 h2 => (h'.2 a k h1 h2).trans (h.2 a k h1 h2)⟩
theorem rA_beg {R : Rm} (h6 : 1 ≤ R 0 6) (hr : rA R) : rA (begR R) := by
  have hn := begR_n (R := R)
  have e13 : begR R 0 13 = R 0 13 := begR_o (by decide) (by decide)
  have hw : ∀ k, wt (begR R) k ↔ wt R k ∧ ¬ (k < nA_ R ∧ frF R k) := fun k => bgi_wt h6
  have e14 : begR R 0 14 = cnt (wt (begR R)) (nA_ R) := by
    unfold begR
    rw [bgi_14]
    exact cnt_congr _ (fun k _ => (bgi_wt h6).symm)
  unfold rA
  rw [hn, e13, e14]
  refine ⟨hr.1, ⟨rfl, ?_⟩, fun i hi => ?_⟩
  · have := cnt_sub (p := wt (begR R)) (p' := wt R) (fun i h => ((hw i).mp h).1) (nA_ R)
    have := hr.2.1
    omega
  · obtain ⟨a1, a2, a3, a4, a5, a6, a7, a8, a9⟩ := hr.2.2 i hi
    rw [begR_a (a := 4) (by decide) (by decide), begR_a (a := 5) (by decide) (by decide), begR_a (a := 6) (by decide) (by decide), begR_a (a := 7) (by decide) (by decide), begR_a (a := 8) (by decide) (by decide), begR_a (a := 9) (by decide) (by decide), begR_a (a := 11) (by decide) (by decide), begR_o (a := 0) (k := 6) (by decide) (by decide)]
    have e10 : begR R 10 i = ifP (i < nA_ R ∧ frF R i) (R 0 6) (R 10 i) := bgi_10
    rw [e10]
    by_cases q : i < nA_ R ∧ frF R i
    · rw [ifP_1 q]
      exact ⟨a1, a2, a3, a4, a5, a6, Or.inr ⟨a6.2, Int.le_refl _⟩, a8, fun z => by have := q.2.1.2; omega⟩
    · rw [ifP_0 q]
      exact ⟨a1, a2, a3, a4, a5, a6, a7, a8, a9⟩
theorem jI_beg {o : Nat} {V : Vt} {S S' : Me} {c : Nat → Nat} {R : Rm} {n : Int} (h : jI o V S c R) (hg : gB o S R n) (hf : fE o c (nA_ R) (sI S o 9 (owR R)) S') (h10 : ∀ k, k < nA_ R → S'.1 (c k) 6 = begR R 10 k) (hC : Cn S' (o + 28) c (wt (begR R)) (nA_ R)) (h7 : S'.1 (o + 28) 7 = begR R 0 14) (h8 : S'.1 (o + 28) 8 = cnt (fw (begR R)) (nA_ R)) : jI o V S' c (begR R) := by
  obtain ⟨hV, hS, hP, hG, hL, hrL, hM, hrM, hA, hrA, hrO, hQ, hW, hH, hs⟩ := h
  have h6 := hg.1.1
  have hn := begR_n (R := R)
  have b0 : ∀ k, k ≠ 7 → k ≠ 14 → begR R 0 k = R 0 k := fun k h1 h2 => begR_o (by decide) (by omega)
  have ba : ∀ a, a ≠ 10 → a ≠ 0 → begR R a = R a := fun a h1 h2 => begR_a h1 h2
  have lo : ∀ {a : Nat}, a < o + 73 → a ≠ o + 28 → a ≠ o → S'.1 a = S.1 a := fun h1 h2 h3 => funext fun k => by
    rw [hf.1 _ k (fun z => h2 z.1) (Or.inr (cA_lo hA hrA h1)), sI_na h3]
  have lo2 : ∀ {a : Nat}, a < o + 73 → a ≠ o + 28 → S'.2 a = S.2 a := fun h1 h2 => funext fun k => by
    rw [hf.2 _ k (fun z => h2 z.1) (Or.inr (cA_lo hA hrA h1)), sI_2]
  have l0 : ∀ k, k ≠ 9 → S'.1 o k = S.1 o k := fun k hk => by
    rw [hf.1 o k (by omega) (Or.inr (cA_lo hA hrA (by omega))), sI_ne (Or.inr hk)]
  have lq : ∀ k, k ≠ 7 → k ≠ 8 → S'.1 (o + 28) k = S.1 (o + 28) k := fun k h1 h2 => by
    rw [hf.1 _ k (by omega) (Or.inr (cA_lo hA hrA (by omega))), sI_na (by omega)]
  have la : ∀ i : Nat, (i : Int) < R 0 13 → ∀ k, k ≠ 6 → S'.1 (c i) k = S.1 (c i) k := fun i hi k hk => by
    have := (hA i hi).1.2.1
    rw [hf.1 _ k (by omega) (Or.inl hk), sI_na (by omega)]
  have e10 : ∀ i, begR R 10 i = ifP (i < nA_ R ∧ frF R i) (R 0 6) (R 10 i) := fun i => bgi_10
  have epl : ∀ i, ¬ R 4 i = 4 → begR R 10 i = R 10 i := fun i hi => by rw [e10, ifP_0 (fun z => hi z.2.1.2)]
  refine ⟨hV, ⟨?_, ?_⟩, jP_R (b0 26 (by decide) (by decide)) (ba 13 (by decide) (by decide)) (ba 14 (by decide) (by decide)) (ba 15 (by decide) (by decide)) (b0 6 (by decide) (by decide)) (b0 10 (by decide) (by decide)) (jP_c (fun a a1 a2 => lo (by omega) (by omega) (by omega)) hP), rG_R (b0 26 (by decide) (by decide)) (ba 13 (by decide) (by decide)) (ba 14 (by decide) (by decide)) (ba 15 (by decide) (by decide)) (b0 6 (by decide) (by decide)) hG, ?_, rL_R (b0 30 (by decide) (by decide)) (ba 17 (by decide) (by decide)) (ba 18 (by decide) (by decide)) (ba 19 (by decide) (by decide)) hrL, ?_, rM_R (ba 3 (by decide) (by decide)) (ba 2 (by decide) (by decide)) hrM, fun i hi => ?_, rA_beg h6 hrA, ?_, ⟨?_, ?_, ?_⟩, ?_, ?_, rS_R (ba 1 (by decide) (by decide)) (b0 2 (by decide) (by decide)) (b0 3 (by decide) (by decide)) (b0 4 (by decide) (by decide)) (b0 5 (by decide) (by decide)) hs⟩
  · rw [l0 6 (by decide), l0 7 (by decide), l0 8 (by decide), l0 10 (by decide), l0 11 (by decide), l0 12 (by decide), l0 13 (by decide), b0 6 (by decide) (by decide), b0 2 (by decide) (by decide), b0 3 (by decide) (by decide), b0 4 (by decide) (by decide), b0 5 (by decide) (by decide), b0 9 (by decide) (by decide), b0 8 (by decide) (by decide)]
    obtain ⟨a1, a2, a3, a4, a5⟩ := hS.1
    refine ⟨a1, a2, a3, ?_, a5⟩
    rw [hf.1 o 9 (by omega) (Or.inr (cA_lo hA hrA (by omega))), sI_eq]
    unfold begR
    rw [bgi_7]
  · rw [lo (a := o + 1) (by omega) (by omega) (by omega), ba 1 (by decide) (by decide)]; exact hS.2
  · refine jL_R (b0 30 (by decide) (by decide)) (b0 37 (by decide) (by decide)) (ba 16 (by decide) (by decide)) (ba 17 (by decide) (by decide)) (ba 18 (by decide) (by decide)) (ba 19 (by decide) (by decide)) (ba 20 (by decide) (by decide)) (ba 21 (by decide) (by decide)) ?_
    unfold jL
    rw [lo (a := o + 10) (by omega) (by omega) (by omega), lo (a := o + 10 + 1) (by omega) (by omega) (by omega), lo (a := o + 10 + 2) (by omega) (by omega) (by omega), lo (a := o + 10 + 3) (by omega) (by omega) (by omega), lo (a := o + 10 + 4) (by omega) (by omega) (by omega), lo (a := o + 10 + 5) (by omega) (by omega) (by omega), lo (a := o + 10 + 6) (by omega) (by omega) (by omega)]
    exact hL
  · refine jM_R (ba 3 (by decide) (by decide)) (ba 2 (by decide) (by decide)) ?_
    unfold jM
    rw [lo (a := o + 25 + 1) (by omega) (by omega) (by omega), lo (a := o + 25 + 2) (by omega) (by omega) (by omega)]
    exact hM
  · rw [b0 13 (by decide) (by decide)] at hi
    obtain ⟨g1, g2, g3, g4, g5⟩ := hA i hi
    rw [la i hi 0 (by decide), la i hi 1 (by decide), la i hi 2 (by decide), la i hi 3 (by decide), la i hi 4 (by decide), la i hi 5 (by decide), la i hi 7 (by decide), la i hi 11 (by decide), la i hi 12 (by decide), lo2 (a := o + 28 + 1) (by omega) (by omega), h10 i ((nA_i hrA i).mpr hi), ba 4 (by decide) (by decide), ba 5 (by decide) (by decide), ba 6 (by decide) (by decide), ba 7 (by decide) (by decide), ba 8 (by decide) (by decide), ba 9 (by decide) (by decide), ba 11 (by decide) (by decide)]
    exact ⟨g1, g2, ⟨rfl, g3.2⟩, g4, g5⟩
  · unfold rO
    rw [b0 24 (by decide) (by decide), b0 25 (by decide) (by decide)]
    rcases hrO with ⟨z1, z2, z3⟩ | ⟨k, z1, z2, z3⟩
    · exact Or.inl ⟨z1, fun k hk => z2 k ((bgi_pw h6).mp hk), z3⟩
    · exact Or.inr ⟨k, z1, (bgi_pw h6).mpr z2, fun j hj hk => z3 j hj ((bgi_pw h6).mp hk)⟩
  · rw [lq 6 (by decide) (by decide), lq 9 (by decide) (by decide), lq 10 (by decide) (by decide), b0 13 (by decide) (by decide), b0 25 (by decide) (by decide), hn]
    exact ⟨hQ.1.1, h7, h8, hQ.1.2.2.2⟩
  · rw [lo (a := o + 28 + 3) (by omega) (by omega) (by omega), ba 12 (by decide) (by decide)]; exact hQ.2.1
  · rw [hn]; exact hC
  · unfold jW
    rw [lo (a := o + 28 + 4) (by omega) (by omega) (by omega), ba 9 (by decide) (by decide)]
    have hwd : ∀ a k, wD (begR R) a k ↔ wD R a k := by
      intro a k
      unfold wD
      rw [b0 13 (by decide) (by decide), ba 5 (by decide) (by decide), ba 4 (by decide) (by decide)]
      constructor
      · rintro ⟨z1, z2, z3, z4⟩
        rw [epl k z3] at z4
        exact ⟨z1, z2, z3, z4⟩
      · rintro ⟨z1, z2, z3, z4⟩
        exact ⟨z1, z2, z3, by rw [epl k z3]; exact z4⟩
    intro a ha
    obtain ⟨w1, w2⟩ := hW a ha
    refine ⟨fun k hk => ?_, ?_⟩
    · have hk := (hwd a k).mp hk
      rw [epl k hk.2.2.1]
      exact w1 k hk
    · rcases w2 with w2 | ⟨k, w2, w3⟩
      · exact Or.inl w2
      · exact Or.inr ⟨k, (hwd a k).mpr w2, by rw [epl k w2.2.2.1]; exact w3⟩
  · refine jH_R (b0 13 (by decide) (by decide)) (ba 25 (by decide) (by decide)) (ba 26 (by decide) (by decide)) (ba 27 (by decide) (by decide)) (ba 28 (by decide) (by decide)) ?_
    obtain ⟨h1, h2, h3⟩ := hH
    have ld : ∀ d, d < 8 → S'.2 (o + 34 + d) = S.2 (o + 34 + d) := fun d hd => lo2 (by omega) (by omega)
    refine ⟨by rw [lo2 (a := o + 33) (by omega) (by omega)]; exact h1, fun d hd => ?_, fun d d' e hd hd' => by rw [ld d hd, ld d' hd']; exact h3 d d' e hd hd'⟩
    have g := h2 d hd
    rw [ld d hd]
    rcases g with g | g | ⟨g1, g2, e, g3, g4, g5, g6, g7, g8, g9, g10⟩
    · exact Or.inl g
    · exact Or.inr (Or.inl g)
    · refine Or.inr (Or.inr ⟨g1, g2, e, g3, g4, g5, g6, g7, g8, by rw [lo (by omega) (by omega) (by omega)]; exact g9, fun i hi => ?_⟩)
      rw [hf.1 e i (by omega) (Or.inr (fun j hj z => by
        have := (hA j ((nA_i hrA j).mp hj)).1.2.2.2.1
        rw [← z, g6] at this
        exact absurd this (by decide))), sI_na (by omega)]
      exact g10 i hi
theorem p_fences {o : Nat} {V : Vt} {S : Me} {c : Nat → Nat} {R : Rm} {n : Int} {Q : Me → Prop} (h : jI o V S c R) (hg : gB o S R n)
    (k : ∀ S', fE o c (nA_ R) (sI S o 9 (owR R)) S' → jI o V S' c (begR R) → Q S') : PT_X7_finishFences V (o + 28) (R 0 6) (sI S o 9 (owR R)) Q := by
  have hI := h
  obtain ⟨hV, hS, hP, hG, hL, hrL, hM, hrM, hA, hrA, hrO, hQ, hW, hH, hs⟩ := h
  have h6 := hg.1.1
  have h13 := hrA.1
  have hc := cA_inj hA hrA
  have hn4 : nA_ R ≤ 400 := by unfold nA_; omega
  have hAi : ∀ i, i < nA_ R → isA (V.2.1 (c i)) ∧ kT (V.2.1 (c i)) = R 4 i ∧ o + 73 ≤ c i ∧ S.1 (c i) 1 = R 5 i := fun i hi => by
    obtain ⟨⟨a1, a2, a3, a4, a5⟩, ⟨b0, b1, -⟩, -⟩ := hA i ((nA_i hrA i).mp hi)
    exact ⟨a4, a5, a2, b1⟩
  have hu : ∀ i, i < nA_ R → c i ≠ o + 28 := fun i hi => by have := (hAi i hi).2.2.1; omega
  have wn : ∀ i k, wt (bgi R i) k → k < nA_ R := fun i k hk => wt_n hrA k ((bgi_wt h6).mp hk).1
  have key : ∀ (fu i : Nat) (y2 : Int) (y3 y4 : Option Nat) (S1 : Me), nA_ R + 1 - i < fu → i ≤ nA_ R → Nx (wt R) c i y4 → Lt (wt (bgi R i)) c i y3 → mkP y2 (fun a => ∃ j, j < i ∧ pw R j ∧ R 5 j = a) → fE o c (nA_ R) (sI S o 9 (owR R)) S1 → (∀ k, k < nA_ R → S1.1 (c k) 6 = bgi R i 10 k) → Cn S1 (o + 28) c (wt (bgi R i)) (nA_ R) → S1.1 (o + 28) 7 = bgi R i 0 14 → S1.1 (o + 28) 8 = cnt (fw (bgi R i)) (nA_ R) → B_X7_finishFences_10 V (o + 28) (R 0 6) Q fu y2 y3 y4 S1 := by
    intro fu
    induction fu with
    | zero => intro i y2 y3 y4 S1 a; omega
    | succ fu ih =>
      intro i y2 y3 y4 S1 hf hi hx hl hm hfE g10 gC g7 g8
      unfold B_X7_finishFences_10
      rcases hx with ⟨e, a⟩ | ⟨j, e, b1, b2, b3⟩
      · refine ⟨fun _ => k S1 hfE ?_, fun z => absurd e z⟩
        have eb : begR R = bgi R i := bgi_sk hi (fun k h1 _ w => a k h1 w.1.1)
        refine jI_beg hI hg hfE (by rw [eb]; exact g10) (by rw [eb]; exact gC) (by rw [eb]; exact g7) (by rw [eb]; exact g8)
      · have hjn := wt_n hrA j b2
        obtain ⟨hAj, hTj, hlj, hsj⟩ := hAi j hjn
        have hj5 := (hrA.2.2 j b2.1).2.1
        have sk : bgi R j = bgi R i := bgi_sk b1 (fun k h1 h2 w => b3 k h1 h2 w.1.1)
        rw [← sk] at g10 gC g7 g8 hl
        have hl : Lt (wt (bgi R j)) c j y3 := by
          rcases hl with ⟨l1, l2⟩ | ⟨l, l1, l2, l3, l4⟩
          · refine Or.inl ⟨l1, fun k h1 h2 => ?_⟩
            rcases Nat.lt_or_ge k i with w | w
            · exact l2 k w h2
            · exact b3 k w h1 ((bgi_wt h6).mp h2).1
          · refine Or.inr ⟨l, l1, by omega, l3, fun k h1 h2 h3 => ?_⟩
            rcases Nat.lt_or_ge k i with w | w
            · exact l4 k h1 w h3
            · exact b3 k w h2 ((bgi_wt h6).mp h3).1
        have hm : mkP y2 (fun a => ∃ l, l < j ∧ pw R l ∧ R 5 l = a) := by
          refine ⟨hm.1, fun b b0 b1' => ?_⟩
          rw [hm.2 b b0 b1']
          constructor
          · rintro ⟨l, l1, l2⟩
            exact ⟨l, by omega, l2⟩
          · rintro ⟨l, l1, l2, l3⟩
            refine ⟨l, ?_, l2, l3⟩
            rcases Nat.lt_or_ge l i with w | w
            · exact w
            · exact absurd l2.1 (b3 l w l1)
        have hwj : wt (bgi R j) j := (bgi_wt h6).mpr ⟨b2, fun w => by omega⟩
        have s1j : S1.1 (c j) 1 = R 5 j := by
          rw [hfE.1 (c j) 1 (by omega) (Or.inl (by decide)), sI_na (by omega), hsj]
        -- j stays
        have stay : ¬ frF R j → ∀ y : Int, mkP y (fun a => ∃ l, l < j + 1 ∧ pw R l ∧ R 5 l = a) → B_X7_finishFences_81 V (o + 28) (R 0 6) (B_X7_finishFences_10 V (o + 28) (R 0 6) Q fu) y (some (c j)) (some (c j)) S1 Q := by
          intro nf y hy
          have sk2 : bgi R (j + 1) = bgi R j := bgi_sk (by omega) (fun k h1 h2 w => by
            have : k = j := by omega
            subst this; exact nf w)
          refine ⟨c j, rfl, hAj, ih (j + 1) y (some (c j)) _ S1 (by omega) (by omega) ?_ ?_ hy hfE (by rw [sk2]; exact g10) (by rw [sk2]; exact gC) (by rw [sk2]; exact g7) (by rw [sk2]; exact g8)⟩
          · refine Nx.cg (fun l hl => ?_) (gC.2.1 j hwj)
            rw [bgi_wt h6]
            exact ⟨fun z => z.1, fun z => ⟨z, fun w => by omega⟩⟩
          · rw [sk2]
            exact Or.inr ⟨j, rfl, by omega, hwj, fun l h1 h2 => by omega⟩
        refine ⟨fun z => (by rw [e] at z; cases z), fun _ => ⟨c j, e, hAj, ?_⟩⟩
        rw [e]
        refine pv_isFence hAj (fun z4 => ⟨fun _ => ?_, fun z => absurd z (by decide)⟩) (fun z4 => ⟨fun z => absurd rfl z, fun _ => ?_⟩)
        · rw [hTj] at z4
          rw [s1j]
          have bit := hm.2 (R 5 j) hj5.1 hj5.2
          have hfrj : frF R j ↔ ¬ (bAnd (bShr y2 (R 5 j)) 1 = 1) := by
            rw [bit]
            constructor
            · rintro w ⟨l, l1, l2, l3⟩
              exact w.2 l l1 ⟨l2, l3⟩
            · intro w
              exact ⟨⟨b2, z4⟩, fun l l1 l2 => w ⟨l, l1, l2.1, l2.2⟩⟩
          refine ⟨fun z S10 e10 => ?_, fun z => stay (fun w => (hfrj.mp w) z) y2 ⟨hm.1, fun b b0 b1' => ?_⟩⟩
          · have hfr := hfrj.mpr z
            have u8 : S10.1 (o + 28) 8 = cnt (fw (bgi R j)) (nA_ R) := by rw [e10, sI_na (fun w => hu j hjn w.symm), g8]
            rw [u8]
            have cb := cnt_b (fw (bgi R j)) (nA_ R)
            refine ⟨by unfold rng; omega, fun S13 e13 => ?_⟩
            have C13 : Cn S13 (o + 28) c (wt (bgi R j)) (nA_ R) := by
              unfold Cn
              rw [e13, sI_2, e10, sI_2]
              exact gC
            have u7 : S13.1 (o + 28) 7 = bgi R j 0 14 := by rw [e13, sI_ne (Or.inr (by decide)), e10, sI_na (fun w => hu j hjn w.symm), g7]
            have cb7 := cnt_b (fun l => wt R l ∧ ¬ (l < j ∧ frF R l)) (nA_ R)
            rw [← bgi_14] at cb7
            refine p_unlink (wn j) hc hu (fun i hi => (hAi i hi).1) C13 hwj hl (by rw [u7]; unfold rng; omega) (fun S' v1 v2 v3 v4 => ?_)
            have hs1 := bgi_s hrA hfr
            have w10 : ∀ k, bgi R (j + 1) 10 k = if k = j then R 0 6 else bgi R j 10 k := by
              intro k
              rw [hs1, uR_1, if_neg (by omega), uR_1]
              by_cases w : k = j
              · rw [if_pos ⟨rfl, w⟩, if_pos w]
              · rw [if_neg (fun y => w y.2), if_neg w]
            have hww : ∀ l, (wt (bgi R j) l ∧ l ≠ j) ↔ wt (bgi R (j + 1)) l := by
              intro l
              rw [bgi_wt h6, bgi_wt h6]
              constructor
              · rintro ⟨⟨y1, y2⟩, y3⟩
                exact ⟨y1, fun w => y2 ⟨by omega, w.2⟩⟩
              · rintro ⟨y1, y2⟩
                exact ⟨⟨y1, fun w => y2 ⟨by omega, w.2⟩⟩, fun w => y2 ⟨by omega, by rw [w]; exact hfr⟩⟩
            refine ⟨c j, rfl, hAj, ih (j + 1) y2 y3 _ S' (by omega) (by omega) ?_ ?_ ⟨hm.1, fun b b0 b1' => ?_⟩ ?_ (fun l hl' => ?_) ?_ ?_ ?_⟩
            · rw [v3, e13, sI_2, e10, sI_2]
              refine Nx.cg (fun l hl' => ?_) (gC.2.1 j hwj)
              rw [bgi_wt h6]
              exact ⟨fun z => z.1, fun z => ⟨z, fun w => by omega⟩⟩
            · rcases hl with ⟨l1, l2⟩ | ⟨l, l1, l2, l3, l4⟩
              · refine Or.inl ⟨l1, fun l h1 h2 => ?_⟩
                obtain ⟨y1, y2⟩ := (hww l).mpr h2
                exact l2 l (by omega) y1
              · refine Or.inr ⟨l, l1, by omega, (hww l).mp ⟨l3, by omega⟩, fun l' h1 h2 h3 => ?_⟩
                obtain ⟨y1, y2⟩ := (hww l').mpr h3
                exact l4 l' h1 (by omega) y1
            · rw [hm.2 b b0 b1']
              constructor
              · rintro ⟨l, l1, l2⟩
                exact ⟨l, by omega, l2⟩
              · rintro ⟨l, l1, l2, l3⟩
                refine ⟨l, ?_, l2, l3⟩
                have : l ≠ j := fun w => by rw [w] at l2; exact frF_n hfr l2
                omega
            · refine fE_t hfE ⟨fun a l h1 h2 => ?_, fun a l h1 h2 => ?_⟩
              · rw [v1, sI_ne (by omega), e13, sI_ne (by omega), e10, sI_ne]
                rcases h2 with w | w
                · exact Or.inr w
                · exact Or.inl (w j hjn)
              · rw [v2 a l (by omega) h2, e13, sI_2, e10, sI_2]
            · rw [v1, sI_na (fun w => hu l hl' w), e13, sI_na (fun w => hu l hl' w), e10, w10]
              by_cases w : l = j
              · subst w
                rw [if_pos rfl, sI_eq]
              · rw [if_neg w, sI_na (fun y => w (hc l j hl' hjn y)), g10 l hl']
            · exact ⟨Nx.cg (fun l _ => hww l) v4.1, fun l hl' => Nx.cg (fun l' _ => hww l') (v4.2.1 l ((hww l).mpr hl')), by
                rcases v4.2.2 with ⟨y1, y2⟩ | ⟨l, y1, y2, y3, y4⟩
                · exact Or.inl ⟨y1, fun l h1 h2 => y2 l h1 ((hww l).mpr h2)⟩
                · exact Or.inr ⟨l, y1, y2, (hww l).mp y3, fun l' h1 h2 h3 => y4 l' h1 h2 ((hww l').mpr h3)⟩⟩
            · rw [v1, sI_eq, u7, hs1, uR_1, if_pos ⟨rfl, rfl⟩]
            · rw [v1, sI_ne (Or.inr (by decide)), e13, sI_eq]
              refine (cnt_del (k := j) _ hjn ((bgi_fw h6).mpr ⟨⟨b2, z4⟩, fun w => by omega⟩) (fun l _ => ?_)).symm
              rw [bgi_fw h6, bgi_fw h6]
              constructor
              · rintro ⟨y1, y2⟩
                exact ⟨⟨y1, fun w => y2 ⟨by omega, w.2⟩⟩, fun w => y2 ⟨by omega, by rw [w]; exact hfr⟩⟩
              · rintro ⟨⟨y1, y2⟩, y3⟩
                exact ⟨y1, fun w => y2 ⟨by omega, w.2⟩⟩
          · rw [hm.2 b b0 b1']
            constructor
            · rintro ⟨l, l1, l2⟩
              exact ⟨l, by omega, l2⟩
            · rintro ⟨l, l1, l2, l3⟩
              refine ⟨l, ?_, l2, l3⟩
              have : l ≠ j := fun w => by rw [w] at l2; exact l2.2 z4
              omega
        · rw [hTj] at z4
          rw [s1j]
          refine stay (fun w => z4 w.1.2) _ (mkP_s hm hj5.1 hj5.2 (fun b => ?_))
          constructor
          · rintro ⟨l, l1, l2, l3⟩
            by_cases w : l = j
            · subst w; exact Or.inr l3.symm
            · exact Or.inl ⟨l, by omega, l2, l3⟩
          · rintro (⟨l, l1, l2⟩ | w)
            · exact ⟨l, by omega, l2⟩
            · exact ⟨j, by omega, ⟨b2, z4⟩, w.symm⟩
  have b00 := bgi_0 hrA
  have hw0 : ∀ l, wt R l ↔ wt (bgi R 0) l := fun l => by
    rw [bgi_wt h6]
    exact ⟨fun z => ⟨z, fun w => by omega⟩, fun z => z.1⟩
  refine ⟨nA_ R + 2, key (nA_ R + 2) 0 0 none _ _ (by omega) (by omega) ?_ (Or.inl ⟨rfl, fun l hl => by omega⟩) (mkP_0 (fun b ⟨l, hl, _⟩ => by omega)) ⟨fun _ _ _ _ => rfl, fun _ _ _ _ => rfl⟩ (fun l hl => ?_) ?_ ?_ ?_⟩
  · rw [sI_2]; exact hQ.2.2.1
  · rw [sI_na (fun w => by have := (hAi l hl).2.2.1; omega), (hA l ((nA_i hrA l).mp hl)).2.2.1.1, bgi_10, ifP_0 (fun w => by omega)]
  · unfold Cn
    rw [sI_2]
    exact ⟨Nx.cg (fun l _ => hw0 l) hQ.2.2.1, fun l hl => Nx.cg (fun l' _ => hw0 l') (hQ.2.2.2.1 l ((hw0 l).mpr hl)), by
      rcases hQ.2.2.2.2 with ⟨y1, y2⟩ | ⟨l, y1, y2, y3, y4⟩
      · exact Or.inl ⟨y1, fun l h1 h2 => y2 l h1 ((hw0 l).mpr h2)⟩
      · exact Or.inr ⟨l, y1, y2, (hw0 l).mp y3, fun l' h1 h2 h3 => y4 l' h1 h2 ((hw0 l').mpr h3)⟩⟩
  · rw [sI_na (by omega), hQ.1.2.1, b00, uR_1, if_neg (by omega)]
  · rw [sI_na (by omega), hQ.1.2.2.1]
    refine cnt_congr _ (fun l _ => ?_)
    rw [bgi_fw h6]
    exact ⟨fun z => ⟨z, fun w => by omega⟩, fun z => z.1⟩

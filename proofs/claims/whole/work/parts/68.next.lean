/-! ===== PURE PART: pairs: run, drain, next ===== -/
theorem rf_fr {o : Nat} {S S' : Me} (h : ∀ b, o + 42 ≤ b → b < o + 73 → S'.1 b = S.1 b) : rf (o + 42) S' = rf (o + 42) S := rf_c (fun a a1 a2 => h a a1 (by omega))
theorem pr_run {o : Nat} {V : Vt} {S : Me} {n x1 : Int} (h : jJ o V S n) (hn : n + 500 ≤ 300000) : PT_X11_run V o x1 S (fun r S1 => PT_X12_run V (o + 42) x1 S1 (fun r2 S2 => r2 = r ∧ jJ o V S2 (n + 500))) := by
  obtain ⟨c, hT⟩ := jJ_st h
  obtain ⟨hV, hS, hP, hG, hL, hrL, hM, hrM, hA, hrA, hrO, hQ, hW, hH, hs⟩ := hT.1
  refine p_within (fun g => ⟨fun _ => p_runC hT hn g (fun S' R' ht hT' hfr => ?_), fun e => absurd e (by decide)⟩) (fun g => ⟨fun e => absurd rfl e, fun _ S1 e1 => ?_⟩)
  · intro S1 e1
    obtain ⟨t1, t2⟩ := th_0 e1
    have eR := rf_fr hfr
    refine ⟨fun _ => ?_, fun z => absurd g (isin_0.mp z)⟩
    rw [rf0 (q := o + 42) (S := S1) 14 (by decide), t2, eR]
    have hr' := hT'.1.2.2.2.2.2.2.2.2.2.1
    have c1 := cnt_b (wt R') (nA_ R')
    have c2 := cnt_b (wt (rf (o + 42) S)) (nA_ (rf (o + 42) S))
    have w1 := hr'.2.1
    have w2 := hrA.2.1
    refine p_runR (R := rf (o + 42) S) hV.2.1 g (by rw [t2, eR]) ht (by unfold rng; omega) (fun S2 f2 e2 => ⟨rfl, ?_⟩)
    exact jJ_n (jJ_end hT' (fR_tr t1 f2) e2) (by omega) (by omega)
  · obtain ⟨t1, t2⟩ := th_0 e1
    exact ⟨fun z => absurd (isin_1.mp z) g, fun _ => ⟨rfl, jJ_n (jJ_end hT t1 t2) (by omega) (by omega)⟩⟩
theorem pr_drain {o : Nat} {V : Vt} {S : Me} {n x1 : Int} (h : jJ o V S n) (hn : n + 500 ≤ 300000) : PT_X11_drain V o x1 S (fun r S1 => PT_X12_drain V (o + 42) x1 S1 (fun r2 S2 => r2 = r ∧ jJ o V S2 (n + 500))) := by
  obtain ⟨c, hT⟩ := jJ_st h
  obtain ⟨hV, hS, hP, hG, hL, hrL, hM, hrM, hA, hrA, hrO, hQ, hW, hH, hs⟩ := hT.1
  refine p_within (fun g => ⟨fun _ => p_drainC hT hn g (fun S' R' t ht h0 h1 hT' hfr => ?_), fun e => absurd e (by decide)⟩) (fun g => ⟨fun e => absurd rfl e, fun _ S1 e1 => ?_⟩)
  · intro S1 e1
    obtain ⟨t1, t2⟩ := th_0 e1
    have eR := rf_fr hfr
    refine ⟨fun _ => ?_, fun z => absurd g (isin_0.mp z)⟩
    refine p_drainR (R := rf (o + 42) S) hV.2.1 g (by rw [t2, eR]) ht (fun S2 f2 e2 => ⟨rfl, ?_⟩)
    exact jJ_n (jJ_end hT' (fR_tr t1 f2) e2) (by omega) (by omega)
  · obtain ⟨t1, t2⟩ := th_0 e1
    exact ⟨fun z => absurd (isin_1.mp z) g, fun _ => ⟨rfl, jJ_n (jJ_end hT t1 t2) (by omega) (by omega)⟩⟩
theorem can_c {R R' : Rm} (h26 : R' 0 26 = R 0 26) (h13 : R' 13 = R 13) (h14 : R' 14 = R 14) (h15 : R' 15 = R 15) (h6 : R' 0 6 = R 0 6) (h1 : R' 1 = R 1) (h2 : R' 2 = R 2) : can R' = can R := by
  have e0 : eR R' = eR R := by funext i; unfold eR; rw [h26]
  have e1 : tkR R' = tkR R := by funext i; unfold tkR; rw [h13, e0]
  have e2 : whR R' = whR R := by funext i; unfold whR; rw [h14, e0]
  have e3 : bkR R' = bkR R := by funext i; unfold bkR; rw [h15, e0]
  have e4 : nR_ R' = nR_ R := by unfold nR_; rw [h26]
  funext is b
  unfold can stR ftR
  rw [e1, e2, e3, e4, h6, h1, h2]
theorem Pk_e {R R' : Rm} {hp : Nat → Prop} (hc : can R' = can R) (hm : cmd R' = cmd R) (h6 : R' 6 = R 6) : ∀ (l pre : List Nat) (r : Option Nat), Pk R' hp pre l r ↔ Pk R hp pre l r
  | [], _, _ => Iff.rfl
  | x :: l, pre, r => by
    have e : gdP R' hp pre x ↔ gdP R hp pre x := by unfold gdP; rw [hc, hm, h6]
    unfold Pk
    rw [e, Pk_e hc hm h6 l (pre ++ [x]) r]
theorem Cho_beg {R : Rm} {hp : Nat → Prop} {w cm bb : Int} {a : Option Nat} (h1 : 1 ≤ R 0 6) (hr : rA R) : Cho (begR R) hp w cm bb a ↔ Cho R hp w cm bb a := by
  have b0 : ∀ k, k ≠ 7 → k ≠ 14 → begR R 0 k = R 0 k := fun k h1 h2 => begR_o (by decide) (by omega)
  have ba : ∀ a, a ≠ 10 → a ≠ 0 → begR R a = R a := fun a h1 h2 => begR_a h1 h2
  have hc : can (begR R) = can R := can_c (b0 26 (by decide) (by decide)) (ba 13 (by decide) (by decide)) (ba 14 (by decide) (by decide)) (ba 15 (by decide) (by decide)) (b0 6 (by decide) (by decide)) (ba 1 (by decide) (by decide)) (ba 2 (by decide) (by decide))
  have hm : cmd (begR R) = cmd R := by
    funext k
    unfold cmd
    rw [ba 2 (by decide) (by decide), ba 6 (by decide) (by decide), ba 4 (by decide) (by decide)]
  have hp' : ∀ k, pw (begR R) k ↔ pw R k := fun k => bgi_pw h1
  have hrf : Rfs (begR R) w ↔ Rfs R w := by
    unfold Rfs
    rw [b0 3 (by decide) (by decide)]
    refine ⟨fun z => z.imp id (fun z => ⟨z.1, fun k hk => z.2 k ((hp' k).mpr hk)⟩), fun z => z.imp id (fun z => ⟨z.1, fun k hk => z.2 k ((hp' k).mp hk)⟩)⟩
  have hcr : Crf (begR R) cm bb ↔ Crf R cm bb := by unfold Crf; rw [hc]
  unfold Cho
  rw [hrf, hcr, begR_ord h1 hr, Pk_e hc hm (ba 6 (by decide) (by decide)), hm, ba 6 (by decide) (by decide)]
  refine ⟨fun z => z.imp id (fun z => ⟨z.1, z.2.imp id (fun ⟨x, y⟩ => ⟨x, (Pk_e hc hm (ba 6 (by decide) (by decide)) _ _ _).mp y.1, y.2⟩)⟩), fun z => z.imp id (fun z => ⟨z.1, z.2.imp id (fun ⟨x, y⟩ => ⟨x, (Pk_e hc hm (ba 6 (by decide) (by decide)) _ _ _).mpr y.1, y.2⟩)⟩)⟩
theorem p_nextR {V : Vt} {q : Nat} {S : Me} {Q : Int → Me → Prop} (hX : fX12 V q) (hz : rZ (rf q S)) (hlt : rf q S 0 7 < rf q S 0 6) (k : ∀ (cm bb : Int) (a : Option Nat) (S' : Me), Cho (begR (rf q S)) (hR (begR (rf q S))) (begR (rf q S) 0 7) cm bb a → fR q S S' → rf q S' = rf q S → Q cm S') : PT_X12_next V q S Q := by
  obtain ⟨hA, hs, hG, hL, g6, g7, g8, g9, g10, g26, g25, g12⟩ := id hz
  have h13 := hA.1
  have hn4 : nA_ (rf q S) ≤ 400 := by unfold nA_; omega
  intro S0 e0
  obtain ⟨t1, t2⟩ := th_0 e0
  rw [rf0 7 (by decide), rf0 14 (by decide), t2]
  -- back again
  have back : ∀ (cm bb : Int) (a : Option Nat), Cho (begR (rf q S)) (hR (begR (rf q S))) (begR (rf q S) 0 7) cm bb a → ∀ (fu i : Nat) (S1 : Me), nA_ (rf q S) - i < fu → i ≤ nA_ (rf q S) → fR q S S1 → S1.1 q 40 = cm → (∀ j, j < nA_ (rf q S) → S1.1 (q + 23) j = rf q S 10 j) → (∀ b j, ¬ b = 10 → rf q S1 b j = begR (rf q S) b j) → (∀ j, rf q S1 10 j = if j < i then rf q S 10 j else begR (rf q S) 10 j) → B_X12_next_53 V q Q fu (rf q S 0 7) (rf q S 0 14) (i : Int) S1 := by
    intro cm bb a hc fu
    induction fu with
    | zero => intro i S1 a; omega
    | succ fu ih =>
      intro i S1 hf hi f1 v40 vk rb r10
      unfold B_X12_next_53
      have e13 : rf q S1 0 13 = rf q S 0 13 := by rw [rb 0 13 (by decide), begR_o (by decide) (by decide)]
      rw [rf0 13 (by decide), e13]
      refine ⟨fun z S3 e3 S4 e4 => ?_, fun z => ?_⟩
      · have ei : i = nA_ (rf q S) := by unfold nA_ at hi ⊢; omega
        have w40 : S4.1 q 40 = cm := by rw [e4, sI_ne (by omega), e3, sI_ne (by omega), v40]
        rw [w40]
        refine k cm bb a S4 hc (by rw [e4]; refine fR_s0 ?_; rw [e3]; exact fR_s0 f1) ?_
        rw [e4, rf_w0 (by unfold scr; omega), e3, rf_w0 (by unfold scr; omega)]
        funext b j
        rw [uR_1, uR_1]
        by_cases y1 : b = 0 ∧ j = 14
        · rw [if_pos y1, y1.1, y1.2]
        · rw [if_neg y1]
          by_cases y2 : b = 0 ∧ j = 7
          · rw [if_pos y2, y2.1, y2.2]
          · rw [if_neg y2]
            by_cases y3 : b = 10
            · subst y3
              rw [r10]
              by_cases y4 : j < i
              · rw [if_pos y4]
              · rw [if_neg y4]
                have : begR (rf q S) 10 j = ifP (j < nA_ (rf q S) ∧ frF (rf q S) j) (rf q S 0 6) (rf q S 10 j) := bgi_10
                rw [this, ifP_0 (fun w => by omega)]
            · rw [rb b j y3, begR_o y3 (by omega)]
      · have hi1 : i < nA_ (rf q S) := by unfold nA_; omega
        rw [tn]
        refine ⟨by omega, by omega, fun S9 e9 => ⟨by unfold rng; omega, ?_⟩⟩
        rw [vk i hi1] at e9
        have := ih (i + 1) S9 (by omega) (by omega) (by rw [e9]; exact fR_s f1 (by decide)) (by rw [e9, sI_na (by omega), v40]) (fun j hj => by rw [e9, sI_na (by omega), vk j hj]) (fun b j hb => by rw [e9, rf_w (by unfold scr; omega), uR_a (by omega), rb b j hb]) (fun j => by
          rw [e9, rf_w (by unfold scr; omega), uR_1, r10]
          by_cases y : j = i
          · subst y
            rw [if_pos ⟨rfl, rfl⟩, if_pos (by omega)]
          · rw [if_neg (fun w => y w.2)]
            by_cases y2 : j < i
            · rw [if_pos y2, if_pos (by omega)]
            · rw [if_neg y2, if_neg (by omega)])
        exact this
  have fwd : ∀ (fu i : Nat) (S1 : Me), nA_ (rf q S) - i < fu → i ≤ nA_ (rf q S) → fR q S S1 → rf q S1 = rf q S → (∀ j, j < i → S1.1 (q + 23) j = rf q S 10 j) → B_X12_next_17 V q Q fu (rf q S 0 7) (rf q S 0 14) (i : Int) S1 := by
    intro fu
    induction fu with
    | zero => intro i S1 a; omega
    | succ fu ih =>
      intro i S1 hf hi f1 r1 vk
      unfold B_X12_next_17
      rw [rf0 13 (by decide), r1]
      refine ⟨fun z => ?_, fun z => ?_⟩
      · have ei : i = nA_ (rf q S) := by unfold nA_ at hi ⊢; omega
        subst ei
        refine p_beginR hX (by rw [r1]; exact hA) (by rw [r1]; exact hs) (by rw [r1]; omega) (by rw [r1]; omega) (fun S2 f2 e2 => ?_)
        rw [r1] at e2
        have z2 := rZ_beg hz hlt
        rw [← e2] at z2
        obtain ⟨hA1, hs1, hG1, hL1, h6, h7, h8, h9, h10, h26, h25, h12⟩ := id z2
        refine p_findR hA1 hs1 (fun a ha => by have := h12 a ha; omega) hG1 ⟨h26.1, by omega⟩ (by omega) (fun cm bb a S3 hc f3 v40 v41 v42 => ?_)
        rw [e2] at hc
        have e3 := fF_rf f3
        refine ⟨nA_ (rf q S) + 1, back cm bb a hc (nA_ (rf q S) + 1) 0 S3 (by omega) (by omega) (fR_tr f1 (fR_tr (fG_fR f2) (fF_fR f3))) v40 (fun j hj => ?_) (fun b j _ => by rw [e3, e2]) (fun j => by rw [e3, e2, if_neg (by omega)])⟩
        rw [f3.2 _ _ (by omega) (by omega), f2.2 _ _ (by omega) (by omega), vk j hj]
      · have hi1 : i < nA_ (rf q S) := by unfold nA_; omega
        rw [tn, rfa 10 i (by decide), r1]
        refine ⟨by omega, by omega, fun S9 e9 => ⟨by unfold rng; omega, ?_⟩⟩
        have := ih (i + 1) S9 (by omega) (by omega) (by rw [e9]; exact fR_s f1 (by decide)) (by rw [e9, rf_s (by unfold scr; omega), r1]) (fun j hj => by
          rw [e9, sI_at]
          by_cases y : j = i
          · rw [if_pos y, y]
          · rw [if_neg y, vk j (by omega)])
        exact this
  exact ⟨nA_ (rf q S) + 1, fwd (nA_ (rf q S) + 1) 0 S0 (by omega) (by omega) t1 t2 (fun j hj => by omega)⟩
theorem pr_next {o : Nat} {V : Vt} {S : Me} {n : Int} (h : jJ o V S n) : PT_X11_next V o S (fun r S1 => PT_X12_next V (o + 42) S1 (fun r2 S2 => r2 = r ∧ jJ o V S2 n)) := by
  obtain ⟨c, hT⟩ := jJ_st h
  have hZ := rZ_of hT.1 hT.2.1
  obtain ⟨hI, hg, hl⟩ := id hT
  obtain ⟨hV, hS, hP, hG, hL, hrL, hM, hrM, hA, hrA, hrO, hQ, hW, hH, hs⟩ := id hI
  have h6 := hg.1.1
  unfold PT_X11_next
  refine p_owed hS hs hg (p_chooseC hI hg (fun cm bb a S' hc f' v14 v15 => ?_))
  have hT' := jT_fC hT f'
  have eR := fC_rf hA hrA f'
  refine p_nextR hV.2.1 (by rw [eR]; exact hZ) (by rw [eR]; exact hl) (fun cm' bb' a' S2 hc' f2 e2 => ?_)
  rw [eR] at hc' e2
  refine ⟨?_, jJ_end hT' f2 e2⟩
  have e7 : begR (rf (o + 42) S) 0 7 = owR (rf (o + 42) S) := bgi_7
  rw [e7] at hc'
  have hc2 := (Cho_beg h6 hrA).mp hc'
  have hc3 := Cho_c (hp' := fun x => hC (rf (o + 42) S) x 0) (fun x hx => hC_beg h6 hrA (ord_pw hrA hx)) hc2
  exact (Cho_u hc3 hc).1

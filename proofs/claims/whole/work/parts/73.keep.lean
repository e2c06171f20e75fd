/-! ===== PURE PART: shelves: make, keep, copy ===== -/
theorem jT_H {o : Nat} {V V' : Vt} {S S' : Me} {c : Nat → Nat} {R R' : Rm} {n : Int} (hT : jT o V S c R n) (ex : exV V V') (hb : ∀ b, b < o + 34 → S'.1 b = S.1 b ∧ S'.2 b = S.2 b) (hk : ∀ i : Nat, (i : Int) < R 0 13 → S'.1 (c i) = S.1 (c i) ∧ S'.2 (c i) = S.2 (c i)) (hR : ∀ a, a < 25 → R' a = R a) (hH : jH o V' S' c R') : jT o V' S' c R' n := by
  obtain ⟨hI, hg, hl⟩ := hT
  obtain ⟨hV, hS, hP, hG, hL, hrL, hM, hrM, hA, hrA, hrO, hQ, hW, -, hs⟩ := hI
  have h73 := hV.2.2.1
  have r0 : ∀ k, R' 0 k = R 0 k := fun k => by rw [hR 0 (by decide)]
  refine ⟨⟨⟨fX11_x ex hV.1, fX12_x ex hV.2.1, by have := ex.1; omega, ex.ty (by omega) hV.2.2.2.1, fun d hd => ex.ty (by omega) (hV.2.2.2.2 d hd)⟩, ⟨?_, ?_⟩, jP_R (r0 26) (hR 13 (by decide)) (hR 14 (by decide)) (hR 15 (by decide)) (r0 6) (r0 10) (jP_c (fun a a1 a2 => (hb a (by omega)).1) hP), rG_R (r0 26) (hR 13 (by decide)) (hR 14 (by decide)) (hR 15 (by decide)) (r0 6) hG, jL_R (r0 30) (r0 37) (hR 16 (by decide)) (hR 17 (by decide)) (hR 18 (by decide)) (hR 19 (by decide)) (hR 20 (by decide)) (hR 21 (by decide)) ?_, rL_R (r0 30) (hR 17 (by decide)) (hR 18 (by decide)) (hR 19 (by decide)) hrL, jM_R (hR 3 (by decide)) (hR 2 (by decide)) ?_, rM_R (hR 3 (by decide)) (hR 2 (by decide)) hrM, cA_R (r0 13) (hR 4 (by decide)) (hR 5 (by decide)) (hR 6 (by decide)) (hR 7 (by decide)) (hR 8 (by decide)) (hR 9 (by decide)) (hR 10 (by decide)) (hR 11 (by decide)) (fun i hi => ?_), rA_R (r0 13) (r0 14) (hR 4 (by decide)) (hR 5 (by decide)) (hR 6 (by decide)) (hR 7 (by decide)) (hR 8 (by decide)) (hR 9 (by decide)) (hR 10 (by decide)) (hR 11 (by decide)) (by rw [r0 6]; exact Int.le_refl _) hrA, rO_R (r0 13) (r0 24) (r0 25) (hR 4 (by decide)) (hR 10 (by decide)) hrO, jQ_R (r0 13) (r0 14) (r0 25) (hR 4 (by decide)) (hR 10 (by decide)) (hR 12 (by decide)) (jQ_S hQ (hb _ (by omega)).1 (hb _ (by omega)).1 (hb _ (by omega)).2 (fun i hi => by rw [(hk i hi).2])), jW_R (r0 13) (hR 4 (by decide)) (hR 5 (by decide)) (hR 9 (by decide)) (hR 10 (by decide)) ?_, hH, rS_R (hR 1 (by decide)) (r0 2) (r0 3) (r0 4) (r0 5) hs⟩, ?_, ?_⟩
  · rw [(hb o (by omega)).1, hR 0 (by decide)]; exact hS.1
  · rw [(hb (o + 1) (by omega)).1, hR 1 (by decide)]; exact hS.2
  · unfold jL
    rw [(hb (o + 10) (by omega)).1, (hb (o + 10 + 1) (by omega)).1, (hb (o + 10 + 2) (by omega)).1, (hb (o + 10 + 3) (by omega)).1, (hb (o + 10 + 4) (by omega)).1, (hb (o + 10 + 5) (by omega)).1, (hb (o + 10 + 6) (by omega)).1]; exact hL
  · unfold jM
    rw [(hb (o + 25 + 1) (by omega)).1, (hb (o + 25 + 2) (by omega)).1]; exact hM
  · have g := hA i hi
    have hc := g.1.2.2.1
    rw [(hk i hi).1, (hb (o + 28 + 1) (by omega)).2, (ex.2 (c i) hc).1]
    exact ⟨⟨g.1.1, g.1.2.1, ex.lt hc, g.1.2.2.2⟩, g.2⟩
  · unfold jW
    rw [(hb (o + 28 + 4) (by omega)).1]; exact hW
  · unfold gB
    rw [r0 6, r0 7, r0 8, r0 9, r0 10, r0 26, hR 12 (by decide), (hb (o + 28) (by omega)).1]; exact hg
  · rw [r0 6, r0 7]; exact hl
/-- the reference's memory with shelf d filled up to i -/
def kpR (R : Rm) (d : Nat) (wh k sz : Int) (f : Nat → Int) (i : Nat) : Rm := fun a j => if a = 25 ∧ j = d then wh else if a = 27 ∧ j = d then k else if a = 26 ∧ j = d then sz else if a = 28 ∧ 60 * d ≤ j ∧ j < 60 * d + i then f (j - 60 * d) else R a j
theorem kpR_o {R : Rm} {d i : Nat} {wh k sz : Int} {f : Nat → Int} {a : Nat} (h : a < 25) : kpR R d wh k sz f i a = R a := by
  funext j
  unfold kpR
  rw [if_neg (by omega), if_neg (by omega), if_neg (by omega), if_neg (by omega)]
theorem kpR_25 {R : Rm} {d i : Nat} {wh k sz : Int} {f : Nat → Int} (j : Nat) : kpR R d wh k sz f i 25 j = if j = d then wh else R 25 j := by
  unfold kpR
  by_cases e : j = d
  · rw [if_pos ⟨rfl, e⟩, if_pos e]
  · rw [if_neg (fun w => e w.2), if_neg e, if_neg (by omega), if_neg (by omega), if_neg (by omega)]
theorem kpR_26 {R : Rm} {d i : Nat} {wh k sz : Int} {f : Nat → Int} (j : Nat) : kpR R d wh k sz f i 26 j = if j = d then sz else R 26 j := by
  unfold kpR
  rw [if_neg (by omega), if_neg (by omega)]
  by_cases e : j = d
  · rw [if_pos ⟨rfl, e⟩, if_pos e]
  · rw [if_neg (fun w => e w.2), if_neg e, if_neg (by omega)]
theorem kpR_27 {R : Rm} {d i : Nat} {wh k sz : Int} {f : Nat → Int} (j : Nat) : kpR R d wh k sz f i 27 j = if j = d then k else R 27 j := by
  unfold kpR
  rw [if_neg (by omega)]
  by_cases e : j = d
  · rw [if_pos ⟨rfl, e⟩, if_pos e]
  · rw [if_neg (fun w => e w.2), if_neg e, if_neg (by omega), if_neg (by omega)]
theorem kpR_28 {R : Rm} {d i : Nat} {wh k sz : Int} {f : Nat → Int} (j : Nat) : kpR R d wh k sz f i 28 j = if 60 * d ≤ j ∧ j < 60 * d + i then f (j - 60 * d) else R 28 j := by
  unfold kpR
  rw [if_neg (by omega), if_neg (by omega), if_neg (by omega)]
  by_cases e : 60 * d ≤ j ∧ j < 60 * d + i
  · rw [if_pos ⟨rfl, e⟩, if_pos e]
  · rw [if_neg (fun w => e w.2), if_neg e]
theorem kpR_s {R : Rm} {d i : Nat} {wh k sz : Int} {f : Nat → Int} : uR (kpR R d wh k sz f i) 28 (60 * d + i) (f i) = kpR R d wh k sz f (i + 1) := by
  funext a j
  rw [uR_1]
  by_cases e : a = 28 ∧ j = 60 * d + i
  · rw [if_pos e, e.1, e.2, kpR_28, if_pos (by omega)]
    congr 1
    omega
  · rw [if_neg e]
    unfold kpR
    by_cases e2 : a = 28 ∧ 60 * d ≤ j ∧ j < 60 * d + i
    · rw [if_neg (by omega), if_neg (by omega), if_neg (by omega), if_pos e2, if_neg (by omega), if_neg (by omega), if_neg (by omega), if_pos (by omega)]
    · rw [if_neg e2, if_neg (c := a = 28 ∧ 60 * d ≤ j ∧ j < 60 * d + (i + 1)) (by omega)]
theorem jH_k {o d : Nat} {V V' : Vt} {S S' : Me} {c : Nat → Nat} {R : Rm} {wh k sz : Int} {f : Nat → Int} (hH : jH o V S c R) (h73 : o + 73 ≤ V.1) (ex : exV V V') (hd : d < 8) (hsz : sz ≤ 60) (hS' : ∀ b, b < V.1 → b ≠ o + 34 + d → S'.1 b = S.1 b ∧ S'.2 b = S.2 b)
    (hn : (wh = 0 ∧ S'.2 (o + 34 + d) 0 = none ∧ S'.2 (o + 34 + d) 1 = none) ∨ (wh = 1 ∧ ∃ i : Nat, k = (i : Int) ∧ (i : Int) < R 0 13 ∧ S'.2 (o + 34 + d) 0 = some (c i) ∧ S'.2 (o + 34 + d) 1 = none) ∨ ((wh = 3 ∨ wh = 4) ∧ S'.2 (o + 34 + d) 0 = none ∧ S'.2 (o + 34 + d) 1 = some V.1 ∧ V.1 < V'.1 ∧ V'.2.1 V.1 = 12 ∧ (V'.2.2.1 V.1 : Int) = sz ∧ S'.1 (o + 34 + d) 2 = (if wh = 3 then 1 else 0) ∧ ∀ i : Nat, (i : Int) < sz → S'.1 V.1 i = f i)) : jH o V' S' c (kpR R d wh k sz f sz.toNat) := by
  obtain ⟨y1, y2, y3⟩ := hH
  have en : ∀ e, S'.2 (o + 34 + d) 1 = some e → e = V.1 := by
    intro e he
    rcases hn with ⟨-, -, w⟩ | ⟨-, i, -, -, -, w⟩ | ⟨-, -, w, -⟩
    · rw [w] at he; cases he
    · rw [w] at he; cases he
    · exact (Option.some.inj (w.symm.trans he)).symm
  have eo : ∀ d' e, d' < 8 → S.2 (o + 34 + d') 1 = some e → e < V.1 := by
    intro d' e hd' he
    rcases y2 d' hd' with ⟨-, -, w⟩ | ⟨-, i, -, -, -, w⟩ | ⟨-, -, e', w, -, w2, -⟩
    · rw [w] at he; cases he
    · rw [w] at he; cases he
    · have := Option.some.inj (w.symm.trans he)
      omega
  refine ⟨fun d' hd' => by rw [(hS' (o + 33) (by omega) (by omega)).2]; exact y1 d' hd', fun d' hd' => ?_, fun d1 d2 e h1 h2 e1 e2 => ?_⟩
  · rw [kpR_25, kpR_26, kpR_27, kpR_o (by decide)]
    by_cases e : d' = d
    · subst e
      rw [if_pos rfl, if_pos rfl, if_pos rfl]
      rcases hn with w | w | ⟨w1, w2, w3, w4, w5, w6, w7, w8⟩
      · exact Or.inl w
      · exact Or.inr (Or.inl w)
      · refine Or.inr (Or.inr ⟨w1, w2, V.1, w3, h73, w4, w5, w6, hsz, w7, fun i hi => ?_⟩)
        rw [w8 i hi, kpR_28, if_pos (by omega)]
        congr 1
        omega
    · rw [if_neg e, if_neg e, if_neg e, (hS' (o + 34 + d') (by omega) (by omega)).2]
      rcases y2 d' hd' with g | g | ⟨g1, g2, w, g3, g4, g5, g6, g7, g8, g9, g10⟩
      · exact Or.inl g
      · exact Or.inr (Or.inl g)
      · refine Or.inr (Or.inr ⟨g1, g2, w, g3, g4, ex.lt g5, ex.ty g5 g6, by rw [(ex.2 w g5).2.1]; exact g7, g8, by rw [(hS' (o + 34 + d') (by omega) (by omega)).1]; exact g9, fun i hi => ?_⟩)
        rw [(hS' w g5 (by omega)).1, g10 i hi, kpR_28, if_neg (by omega)]
  · by_cases q1 : d1 = d
    · by_cases q2 : d2 = d
      · rw [q1, q2]
      · subst q1
        rw [(hS' (o + 34 + d2) (by omega) (by omega)).2] at e2
        have a := en e e1
        have b := eo d2 e h2 e2
        omega
    · by_cases q2 : d2 = d
      · subst q2
        rw [(hS' (o + 34 + d1) (by omega) (by omega)).2] at e1
        have a := en e e2
        have b := eo d1 e h1 e1
        omega
      · rw [(hS' (o + 34 + d1) (by omega) (by omega)).2] at e1
        rw [(hS' (o + 34 + d2) (by omega) (by omega)).2] at e2
        exact y3 d1 d2 e h1 h2 e1 e2
theorem jT_k {o d : Nat} {V V' : Vt} {S S' : Me} {c : Nat → Nat} {R : Rm} {n wh k sz : Int} {f : Nat → Int} (hT : jT o V S c R n) (ex : exV V V') (hd : d < 8) (hsz : sz ≤ 60) (hS' : ∀ b, b < V.1 → b ≠ o + 34 + d → S'.1 b = S.1 b ∧ S'.2 b = S.2 b)
    (hn : (wh = 0 ∧ S'.2 (o + 34 + d) 0 = none ∧ S'.2 (o + 34 + d) 1 = none) ∨ (wh = 1 ∧ ∃ i : Nat, k = (i : Int) ∧ (i : Int) < R 0 13 ∧ S'.2 (o + 34 + d) 0 = some (c i) ∧ S'.2 (o + 34 + d) 1 = none) ∨ ((wh = 3 ∨ wh = 4) ∧ S'.2 (o + 34 + d) 0 = none ∧ S'.2 (o + 34 + d) 1 = some V.1 ∧ V.1 < V'.1 ∧ V'.2.1 V.1 = 12 ∧ (V'.2.2.1 V.1 : Int) = sz ∧ S'.1 (o + 34 + d) 2 = (if wh = 3 then 1 else 0) ∧ ∀ i : Nat, (i : Int) < sz → S'.1 V.1 i = f i)) : jT o V' S' c (kpR R d wh k sz f sz.toNat) n := by
  have h73 := hT.1.1.2.2.1
  have hA := hT.1.2.2.2.2.2.2.2.2.1
  have hH := hT.1.2.2.2.2.2.2.2.2.2.2.2.2.2.1
  exact jT_H hT ex (fun b hb => hS' b (by omega) (by omega)) (fun i hi => by have := (hA i hi).1; exact hS' _ this.2.2.1 (by omega)) (fun a ha => kpR_o ha) (jH_k hH h73 ex hd hsz hS' hn)
theorem p_hold {V : Vt} {z : Nat} {x1 x2 : Option Nat} {x3 : Int} {S : Me} {Q : Me → Prop} (h3 : x3 = 0 ∨ x3 = 1) (k : ∀ S', (∀ b, b ≠ z → S'.1 b = S.1 b ∧ S'.2 b = S.2 b) → S'.2 z 0 = x1 → S'.2 z 1 = x2 → S'.1 z 2 = x3 → Q S') : PT_X8_hold V z x1 x2 x3 S Q := by
  intro S1 e1 S2 e2
  refine ⟨h3, fun S4 e4 => k S4 (fun b hb => ⟨?_, ?_⟩) ?_ ?_ ?_⟩
  · rw [e4, sI_na hb, e2, sP_1, e1, sP_1]
  · funext j
    rw [e4, sI_2, e2, sP_2, if_neg (fun w => hb w.1), e1, sP_2, if_neg (fun w => hb w.1)]
  · rw [e4, sI_2, e2, sP_2, if_neg (by omega), e1, sP_2, if_pos ⟨rfl, rfl⟩]
  · rw [e4, sI_2, e2, sP_2, if_pos ⟨rfl, rfl⟩]
  · rw [e4, sI_eq]
theorem pr_make {o : Nat} {V : Vt} {S : Me} {n x1 x2 x3 : Int} (h : jJ o V S n) : PT_X11_make V o x1 x2 x3 S (fun r V1 S1 => PT_X12_make V1 (o + 42) x1 x2 x3 S1 (fun r2 S2 => r2 = r ∧ jJ o V1 S2 n)) := by
  obtain ⟨c, hT⟩ := jJ_st h
  obtain ⟨hV, hS, hP, hG, hL, hrL, hM, hrM, hA, hrA, hrO, hQ, hW, hH, hs⟩ := hT.1
  have h73 := hV.2.2.1
  have bad : ∀ r : Int, (¬ ((0 ≤ x1 ∧ x1 < 8) ∧ (3 ≤ x2 ∧ x2 ≤ 4) ∧ x3 ≤ 60) → r = -1) → ((0 ≤ x1 ∧ x1 < 8) → (3 ≤ x2 ∧ x2 ≤ 4) → x3 ≤ 60 → x3 < 0 ∧ r = -14) → PT_X12_make V (o + 42) x1 x2 x3 S (fun r2 S2 => r2 = r ∧ jJ o V S2 n) := by
    intro r r1 r2 S1 e1
    obtain ⟨t1, t2⟩ := th_0 e1
    have j := jJ_end hT t1 t2
    refine p_isShelf (fun g => ⟨fun e => absurd e (by decide), fun _ => ⟨fun z => ⟨(r1 (fun w => isin_0.mp z w.2.1)).symm, j⟩, fun z => ⟨fun z2 => ⟨fun z3 => ?_, fun z3 => ⟨(r2 g (isin_1.mp z) z2).2.symm, j⟩⟩, fun z2 => ⟨(r1 (fun w => z2 w.2.2)).symm, j⟩⟩⟩⟩) (fun g => ⟨fun _ => ⟨(r1 (fun w => g w.1)).symm, j⟩, fun e => absurd rfl e⟩)
    have := (r2 g (isin_1.mp z) z2).1
    omega
  unfold PT_X11_make
  refine p_shelf hH (fun d ed hd => ⟨fun e => (by cases e), fun _ => ?_⟩) (fun g => ⟨fun _ => bad (-1) (fun _ => rfl) (fun w => absurd w g), fun e => absurd rfl e⟩)
  have et : x1.toNat = d := by omega
  have go : (x2 = 3 ∨ x2 = 4) → B_X11_make_22 V o x1 x2 x3 (some (o + 34 + d)) S (fun r V1 S1 => PT_X12_make V1 (o + 42) x1 x2 x3 S1 (fun r2 S2 => r2 = r ∧ jJ o V1 S2 n)) := by
    intro h2
    unfold B_X11_make_22
    refine ⟨fun h60 => ⟨fun h0 => ⟨⟨h0, h60⟩, fun U eU V' eV S4 e4 => ?_⟩, fun h0 => bad (-14) (fun w => absurd ⟨by omega, by omega, h60⟩ w) (fun _ _ _ => ⟨by omega, rfl⟩)⟩, fun h60 => bad (-1) (fun _ => rfl) (fun _ _ w => absurd w h60)⟩
    subst eU eV e4
    have ex := exV.nw U 12 (Int.toNat x3)
    have t7 : (nV U 12 (Int.toNat x3)).2.1 (o + 34 + d) = 7 := ex.ty (by omega) (hV.2.2.2.2 d hd)
    have hX : fX12 (nV U 12 (Int.toNat x3)) (o + 42) := fX12_x ex hV.2.1
    have fin : ∀ w : Int, w = (if x2 = 3 then 1 else 0) → PT_X8_hold (nV U 12 (Int.toNat x3)) (o + 34 + d) none (some U.1) w (nS U S) (fun S11 => PT_X12_make (nV U 12 (Int.toNat x3)) (o + 42) x1 x2 x3 S11 (fun r2 S2 => r2 = 0 ∧ jJ o (nV U 12 (Int.toNat x3)) S2 n)) := by
      intro w hw
      refine p_hold (by rw [hw]; split <;> omega) (fun S' f1 f2 f3 f4 => ?_)
      have hT' : jT o (nV U 12 (Int.toNat x3)) S' c (kpR (rf (o + 42) S) d x2 (rf (o + 42) S 27 d) x3 (fun _ => 0) x3.toNat) n := by
        refine jT_k hT ex hd h60 (fun b b1 b2 => ⟨(f1 b b2).1.trans (nS_o (by omega)).1, (f1 b b2).2.trans (nS_o (by omega)).2⟩) (Or.inr (Or.inr ⟨h2, f2, f3, by rw [nV_1]; omega, nV_t, by rw [nV_l]; omega, by rw [f4, hw], fun i hi => ?_⟩))
        rw [(f1 U.1 (by omega)).1]
        simp [nS]
      intro S1 e1
      obtain ⟨t1, t2⟩ := th_0 e1
      have eR : rf (o + 42) S' = rf (o + 42) S := rf_c (fun b b1 b2 => (f1 b (by omega)).1.trans (nS_o (by omega)).1)
      refine p_isShelf (fun g => ⟨fun e => absurd e (by decide), fun _ => ⟨fun z => absurd (by omega) (isin_0.mp z), fun _ => ⟨fun _ => ⟨fun _ => ⟨g, fun S15 e15 => ⟨g, fun S17 e17 => ?_⟩⟩, fun z => absurd h0 z⟩, fun z => absurd h60 z⟩⟩⟩) (fun g => absurd (by omega) g)
      have f17 : fR (o + 42) S' S17 := by rw [e17]; refine fR_s ?_ (by decide); rw [e15]; exact fR_s t1 (by decide)
      have r17 : rf (o + 42) S17 = kpR (rf (o + 42) S) d x2 (rf (o + 42) S 27 d) x3 (fun _ => 0) 0 := by
        rw [e17, rf_w (by unfold scr; omega), e15, rf_w (by unfold scr; omega), t2, eR, et]
        funext a j
        rw [uR_1, uR_1]
        unfold kpR
        by_cases q1 : a = 26 ∧ j = d
        · rw [if_pos q1, if_neg (by omega), if_neg (by omega), if_pos q1]
        · rw [if_neg q1]
          by_cases q2 : a = 25 ∧ j = d
          · rw [if_pos q2, if_pos q2]
          · rw [if_neg q2, if_neg q2]
            by_cases q3 : a = 27 ∧ j = d
            · rw [if_pos q3, q3.1, q3.2]
            · rw [if_neg q3, if_neg q1, if_neg (by omega)]
      have key : ∀ (m i : Nat) (S2 : Me), (i : Int) + (m : Int) = x3 → fR (o + 42) S' S2 → rf (o + 42) S2 = kpR (rf (o + 42) S) d x2 (rf (o + 42) S 27 d) x3 (fun _ => 0) i → B_X12_make_58 (nV U 12 (Int.toNat x3)) (o + 42) x1 x2 x3 (fun r2 S2 => r2 = 0 ∧ jJ o (nV U 12 (Int.toNat x3)) S2 n) (m + 1) (i : Int) S2 := by
        intro m
        induction m with
        | zero =>
          intro i S2 e2 g1 g2
          unfold B_X12_make_58
          refine ⟨fun _ => ⟨rfl, jJ_end hT' g1 ?_⟩, fun z => by omega⟩
          rw [g2, show x3.toNat = i by omega]
        | succ m ih =>
          intro i S2 e2 g1 g2
          unfold B_X12_make_58
          refine ⟨fun z => by omega, fun _ => ⟨by unfold rng; omega, by unfold rng; omega, by omega, fun S5 e5 => ⟨by unfold rng; omega, ?_⟩⟩⟩
          have := ih (i + 1) S5 (by omega) (by rw [e5]; exact fR_s g1 (by decide)) (by rw [e5, rf_w (by unfold scr; omega), g2, show Int.toNat (60 * x1 + (i : Int)) = 60 * d + i by omega, kpR_s])
          exact this
      exact ⟨x3.toNat + 1, key x3.toNat 0 S17 (by omega) f17 r17⟩
    refine ⟨fun z => ⟨o + 34 + d, rfl, t7, fin 0 (by rw [if_neg z])⟩, fun z => ⟨o + 34 + d, rfl, t7, fin 1 (by rw [if_pos z])⟩⟩
  refine ⟨fun z => go (Or.inl z), fun z => ⟨fun z2 => bad (-1) (fun _ => rfl) (fun _ w _ => by omega), fun z2 => go (Or.inr z2)⟩⟩

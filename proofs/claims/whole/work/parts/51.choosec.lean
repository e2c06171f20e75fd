/-! ===== PURE PART: RowBank.choose ===== -/
theorem p_step {o : Nat} {V : Vt} {S : Me} {c : Nat → Nat} {R : Rm} {x : Nat} {Q : Int → Me → Prop} (hM : jM o S R) (hR : rM R) (hA : cA o V S c R) (hr : rA R) (hx : pw R x) (k : Q (cmd R x) S) : PT_X4_stepToward V (o + 25) (some (c x)) S Q := by
  obtain ⟨⟨a1, a2, a3, a4, a5⟩, ⟨b0, b1, b2, b3, b4, b5⟩, -⟩ := hA x hx.1.1
  obtain ⟨-, -, r6, -⟩ := hr.2.2 x hx.1.1
  have r6 : 0 ≤ R 6 x ∧ R 6 x < 1024 := by
    rcases r6 with z | z
    · exact absurd z.1 hx.2
    · exact z.2
  have hb := bk_b r6.1 r6.2
  have ht : 0 ≤ Int.tdiv (R 6 x) 64 := by rw [tdiv_e r6.1]; omega
  have hm := hR.2 (bk (R 6 x)).toNat (by omega)
  refine ⟨c x, rfl, a4, ?_⟩
  rw [b3, b4, hM.2 _ (by omega)]
  unfold cmd at k
  refine ⟨hb, fun z => ⟨fun z2 => ?_, fun z2 => pv_doneBy a4 ?_⟩, fun z => ?_⟩
  · rw [if_neg z2, if_pos (by omega)] at k; exact k
  · rw [if_pos z2] at k
    rw [a5]; exact k
  · rw [if_neg (by omega), if_neg (by omega)] at k; exact k
theorem cmd_b {R : Rm} {x : Nat} : 0 ≤ cmd R x ∧ cmd R x < 4 := by
  unfold cmd
  split
  · split <;> omega
  · split <;> omega
theorem ord_pw {R : Rm} (hr : rA R) {x : Nat} (h : x ∈ ord R) : pw R x := by
  obtain ⟨a, b, d⟩ := ordN_m _ x h
  exact ⟨⟨(nA_i hr x).mp a, b⟩, d⟩
theorem p_chooseForRefresh {o : Nat} {V : Vt} {S : Me} {c : Nat → Nat} {R : Rm} {n : Int} {Q : Int → Me → Prop} (h : jI o V S c R) (hg : gB o S R n) (k4 : can R 4 0 → Q 4 S) (k1 : ¬ can R 4 0 → ∀ x : Nat, x < 4 → can R 1 (x : Int) → (∀ y : Nat, y < x → ¬ can R 1 (y : Int)) → Q 1 (sI S o 14 (x : Int))) (k0 : ¬ can R 4 0 → (∀ x : Nat, x < 4 → ¬ can R 1 (x : Int)) → Q (-2) S) : PT_X11_chooseForRefresh V o S Q := by
  obtain ⟨hV, hS, hP, hG, hL, hrL, hM, hrM, hA, hrA, hrO, hQ, hW, hH, hs⟩ := h
  refine p_canGoC hV hP hS hG hs hg hM hrM (by decide) (by decide) (fun e => absurd e (by decide)) (fun g => ⟨fun e => absurd e (by decide), fun _ => k4 g⟩) (fun g => ⟨fun _ => ⟨5, ?_⟩, fun e => absurd rfl e⟩)
  have key : ∀ (fu i : Nat), 4 - i < fu → i ≤ 4 → (∀ y : Nat, y < i → ¬ can R 1 (y : Int)) → B_X11_chooseForRefresh_13 V o Q fu (i : Int) S := by
    intro fu
    induction fu with
    | zero => intro i a; omega
    | succ fu ih =>
      intro i hf hi hno
      unfold B_X11_chooseForRefresh_13
      refine ⟨fun z => k0 g (fun x hx => hno x (by omega)), fun z => p_canGoC hV hP hS hG hs hg hM hrM (by decide) (by decide) (fun _ => by omega) (fun g2 => ⟨fun e => absurd e (by decide), fun _ S6 e6 => by rw [e6]; exact k1 g i (by omega) g2 hno⟩) (fun g2 => ⟨fun _ => ⟨by unfold rng; omega, ih (i + 1) (by omega) (by omega) (fun y hy => ?_)⟩, fun e => absurd rfl e⟩)⟩
      by_cases e : y = i
      · subst e; exact g2
      · exact hno y (by omega)
  exact key 5 0 (by omega) (by omega) (fun y hy => by omega)
theorem p_chooseForAsks {o : Nat} {V : Vt} {S : Me} {c : Nat → Nat} {R : Rm} {n : Int} {Q : Int → Me → Prop} (h : jI o V S c R) (hg : gB o S R n)
    (k0 : Pk R (fun x => hC R x 0) [] (ord R) none → ∀ S1, fB c (nA_ R) S S1 → Q (-2) S1) (k1 : ∀ x, Pk R (fun x => hC R x 0) [] (ord R) (some x) → ∀ S1, fB c (nA_ R) S S1 → Q (cmd R x) (sP (sI S1 o 14 (bk (R 6 x))) o 15 (some (c x)))) : PT_X11_chooseForAsks V o S Q := by
  have h0 := h
  obtain ⟨hV, hS, hP, hG, hL, hrL, hM, hrM, hA, hrA, hrO, hQ, hW, hH, hs⟩ := h
  unfold PT_X11_chooseForAsks
  rw [hS.1.2.2.2.2.1, hS.1.2.2.2.2.2.1]
  refine p_arrange hV hM hA hrA hQ hg hs (fun r S1 hb hsg => ?_)
  have hl28 : S1.1 (o + 28) = S.1 (o + 28) := fB_1 hb (cA_lo hA hrA (by omega))
  have hI1 := jI_fC h0 (fC_B (o := o) hb)
  have hg1 := gB_c hl28 hg
  obtain ⟨-, hS, hP, -, hL, -, hM, -, hA, -, -, hQ, hW, hH, -⟩ := hI1
  have key : ∀ (fu : Nat) (pre l : List Nat) (y1 : Int) (y3 : Option Nat), ord R = pre ++ l → l.length < fu → Sg S1 c y3 l none → mkP y1 (fun b => ∃ y, y ∈ pre ∧ ¬ hC R y 0 ∧ bk (R 6 y) = b) → (∀ r, Pk R (fun x => hC R x 0) pre l r → Pk R (fun x => hC R x 0) [] (ord R) r) → B_X11_chooseForAsks_24 V o Q fu y1 y3 S1 := by
    intro fu
    induction fu with
    | zero => intro pre l y1 y3 _ a; omega
    | succ fu ih =>
      intro pre l y1 y3 e hf hsg hmk hpk
      unfold B_X11_chooseForAsks_24
      cases l with
      | nil =>
        have ey : y3 = none := hsg
        exact ⟨fun _ => k0 (hpk none rfl) S1 hb, fun z => absurd ey z⟩
      | cons x l =>
        obtain ⟨ex, hsg⟩ := hsg
        have hx : pw R x := ord_pw hrA (by rw [e]; simp)
        obtain ⟨⟨a1, a2, a3, a4, a5⟩, ⟨b0, b1, b2, b3, b4, b5⟩, -⟩ := hA x hx.1.1
        obtain ⟨-, -, r6, -⟩ := hrA.2.2 x hx.1.1
        have r6 : 0 ≤ R 6 x ∧ R 6 x < 1024 := by
          rcases r6 with z | z
          · exact absurd z.1 hx.2
          · exact z.2
        have hbk := bk_b r6.1 r6.2
        have hcb := cmd_b (R := R) (x := x)
        -- on to the next
        have nxt : ∀ y : Int, ¬ gdP R (fun x => hC R x 0) pre x → mkP y (fun b => ∃ z, z ∈ pre ++ [x] ∧ ¬ hC R z 0 ∧ bk (R 6 z) = b) → B_X11_chooseForAsks_138 V o (B_X11_chooseForAsks_24 V o Q fu) y y3 S1 Q := by
          intro y hng hmk2
          refine ⟨c x, ex, a4, ih (pre ++ [x]) l y _ (by rw [e]; simp) (by simp only [List.length_cons] at hf; omega) hsg hmk2 (fun r hr => hpk r (Or.inr ⟨hng, hr⟩))⟩
        refine ⟨fun z => (by rw [ex] at z; cases z), fun _ => ?_⟩
        rw [ex]
        rw [ex] at nxt
        refine p_heldC (fun i hi => wt_n hrA i hi) (cA_aK hA hrA) hQ.2.2 hx.1 (fun gh => ⟨fun z => absurd z (by decide), fun _ => nxt y1 (fun z => z.1 gh) ⟨hmk.1, fun b b0 b1 => ?_⟩⟩) (fun gh => ⟨fun _ => ⟨c x, rfl, a4, ?_⟩, fun z => absurd rfl z⟩)
        · rw [hmk.2 b b0 b1]
          constructor
          · rintro ⟨z, z1, z2⟩
            exact ⟨z, List.mem_append_left _ z1, z2⟩
          · rintro ⟨z, z1, z2, z3⟩
            rcases List.mem_append.mp z1 with w | w
            · exact ⟨z, w, z2, z3⟩
            · rw [List.mem_singleton.mp w] at z2
              exact absurd gh z2
        · rw [b3]
          have hmk2 : mkP (bOr y1 (bShl 1 (bk (R 6 x)))) (fun b => ∃ z, z ∈ pre ++ [x] ∧ ¬ hC R z 0 ∧ bk (R 6 z) = b) := by
            refine mkP_s hmk hbk.1 hbk.2 (fun b => ?_)
            constructor
            · rintro ⟨z, z1, z2, z3⟩
              rcases List.mem_append.mp z1 with w | w
              · exact Or.inl ⟨z, w, z2, z3⟩
              · rw [List.mem_singleton.mp w] at z3
                exact Or.inr z3.symm
            · rintro (⟨z, z1, z2⟩ | z)
              · exact ⟨z, List.mem_append_left _ z1, z2⟩
              · exact ⟨x, by simp, gh, z.symm⟩
          have bit := hmk.2 (bk (R 6 x)) hbk.1 hbk.2
          have b01 := mkP_01 hmk.1 hbk.1 hbk.2
          have c0 : ¬ gdP R (fun x => hC R x 0) pre x → B_X11_chooseForAsks_102 V o (B_X11_chooseForAsks_24 V o Q fu) (bOr y1 (bShl 1 (bk (R 6 x)))) (some (c x)) (cmd R x) 0 S1 Q := fun hng => ⟨fun _ => nxt _ hng hmk2, fun z => absurd rfl z⟩
          have c1 : (1 < cmd R x ∨ ∀ y ∈ pre, ¬ bk (R 6 y) = bk (R 6 x) ∨ hC R y 0) → B_X11_chooseForAsks_102 V o (B_X11_chooseForAsks_24 V o Q fu) (bOr y1 (bShl 1 (bk (R 6 x)))) (some (c x)) (cmd R x) 1 S1 Q := by
            intro hf1
            refine ⟨fun z => absurd z (by decide), fun _ => ⟨c x, rfl, a4, ?_⟩⟩
            rw [b3]
            refine p_canGoC hV hP hS hG hs hg1 hM hrM hcb.1 (by omega) (fun _ => hbk) (fun g => ⟨fun z => absurd z (by decide), fun _ S10 e10 S11 e11 => ?_⟩) (fun g => ⟨fun _ => nxt _ (fun z => g z.2.2) hmk2, fun z => absurd rfl z⟩)
            rw [e11, e10, b3]
            exact k1 x (hpk _ (Or.inl ⟨⟨gh, hf1, g⟩, rfl⟩)) S1 hb
          have c59 : ∀ w : Int, (¬ w = 0 ↔ ∀ y ∈ pre, ¬ bk (R 6 y) = bk (R 6 x) ∨ hC R y 0) → B_X11_chooseForAsks_59 V o (B_X11_chooseForAsks_24 V o Q fu) y1 (some (c x)) w S1 Q := by
            intro w hw
            refine ⟨c x, rfl, a4, ?_⟩
            rw [b3]
            refine p_step hM hrM hA hrA hx ⟨fun z => c1 (Or.inr (hw.mp z)), fun z => ⟨fun z2 => c1 (Or.inl (by omega)), fun z2 => ⟨fun z3 => c0 (fun g => ?_), fun z3 => c1 (Or.inl (by omega))⟩⟩⟩
            rcases g.2.1 with w | w
            · omega
            · exact absurd z (hw.mpr w)
          refine ⟨fun z => c59 0 ⟨fun w => absurd rfl w, fun w => ?_⟩, fun z => c59 1 ⟨fun _ y hy => ?_, fun _ => by decide⟩⟩
          · exfalso
            have hb1 : bAnd (bShr y1 (bk (R 6 x))) 1 = 1 := by
              rcases b01 with q | q
              · exact absurd q z
              · exact q
            obtain ⟨y, y2, y3, y4⟩ := bit.mp hb1
            rcases w y y2 with q | q
            · exact q y4
            · exact y3 q
          · by_cases q : bk (R 6 y) = bk (R 6 x)
            · refine Or.inr (Classical.byContradiction fun q2 => ?_)
              have := bit.mpr ⟨y, hy, q2, q⟩
              omega
            · exact Or.inl q
  exact ⟨(ord R).length + 1, key _ [] (ord R) 0 r rfl (by omega) hsg (mkP_0 (fun b ⟨y, hy, _⟩ => by cases hy)) (fun r hr => hr)⟩
theorem no_pw {o : Nat} {S : Me} {c : Nat → Nat} {R : Rm} (hQ : jQ o S c R) (hr : rA R) : S.1 (o + 28) 7 = S.1 (o + 28) 8 ↔ ∀ k, ¬ pw R k := by
  have e := cnt_add (p := wt R) (a := fw R) (b := pw R) (nA_ R) (fun i _ => ⟨fun h => by
    by_cases q : R 4 i = 4
    · exact Or.inl ⟨h, q⟩
    · exact Or.inr ⟨h, q⟩, fun h => h.elim (fun h => h.1) (fun h => h.1)⟩) (fun i _ h => h.2.2 h.1.2)
  have z := cnt_0 (p := pw R) (nA_ R)
  rw [hQ.1.2.1, hQ.1.2.2.1, hr.2.1.1, e]
  constructor
  · intro g k hk
    exact z.mp (by omega) k (wt_n hr k hk.1) hk
  · intro g
    have := z.mpr (fun i _ => g i)
    omega
theorem p_chooseC {o : Nat} {V : Vt} {S : Me} {c : Nat → Nat} {R : Rm} {n w : Int} {Q : Int → Me → Prop} (h : jI o V S c R) (hg : gB o S R n)
    (k : ∀ (cm bb : Int) (a : Option Nat) (S' : Me), Cho R (fun x => hC R x 0) w cm bb a → fC o c (nA_ R) S S' → S'.1 o 14 = bb → S'.2 o 15 = a.map c → Q cm S') : PT_X11_choose V o w S Q := by
  intro S6 e6 S7 e7
  have hA := h.2.2.2.2.2.2.2.2.1
  have hrA := h.2.2.2.2.2.2.2.2.2.1
  have lo := cA_lo hA hrA (a := o) (by omega)
  have f7 : fC o c (nA_ R) S S7 := ⟨fun a k h1 h2 => by rw [e7, sP_1, e6, sI_ne (by omega)], fun a k h1 h2 => by rw [e7, sP_2, if_neg h1, e6, sI_2]⟩
  have v14 : S7.1 o 14 = -2 := by rw [e7, sP_1, e6, sI_eq]
  have v15 : S7.2 o 15 = none := by rw [e7, sP_2, if_pos ⟨rfl, rfl⟩]
  have h7 := jI_fC h f7
  have g7 : gB o S7 R n := gB_c (fC_1 f7 (by omega) (cA_lo hA hrA (by omega))) hg
  have hnp := no_pw h7.2.2.2.2.2.2.2.2.2.2.2.1 hrA
  have e8 : S7.1 o 8 = R 0 3 := h7.2.1.1.2.2.1
  have refr : Rfs R w → B_X11_choose_40 V o w S7 Q := by
    intro hr
    refine ⟨fun z => absurd z (by decide), fun _ => p_chooseForRefresh h7 g7 (fun g => k 4 (-2) none S7 (Or.inl ⟨hr, Or.inl ⟨g, rfl, rfl⟩, rfl⟩) f7 v14 v15) (fun g x x1 x2 x3 => k 1 (x : Int) none _ (Or.inl ⟨hr, Or.inr ⟨g, Or.inl ⟨x, x1, x2, x3, rfl, rfl⟩⟩, rfl⟩) (fC_t f7 ⟨fun a k h1 h2 => by rw [sI_ne (by omega)], fun a k h1 h2 => rfl⟩) (by rw [sI_eq]) v15) (fun g g2 => k (-2) (-2) none S7 (Or.inl ⟨hr, Or.inr ⟨g, Or.inr ⟨g2, rfl, rfl⟩⟩, rfl⟩) f7 v14 v15)⟩
  have asks : ¬ Rfs R w → B_X11_choose_44 V o w S7 Q := by
    intro hr
    refine ⟨fun _ => p_chooseForAsks h7 g7 (fun g S1 hb => k (-2) (-2) none S1 (Or.inr ⟨hr, Or.inl ⟨g, rfl, rfl, rfl⟩⟩) (fC_t f7 (fC_B hb)) ?_ ?_) (fun x g S1 hb => k (cmd R x) (bk (R 6 x)) (some x) _ (Or.inr ⟨hr, Or.inr ⟨x, g, rfl, rfl, rfl⟩⟩) (fC_t f7 (fC_t (fC_B hb) ⟨fun a k h1 h2 => by rw [sP_1, sI_ne (by omega)], fun a k h1 h2 => by rw [sP_2, if_neg h1, sI_2]⟩)) ?_ ?_), fun z => absurd rfl z⟩
    · rw [fB_1 hb lo, v14]
    · rw [fB_2 hb lo, v15]; rfl
    · rw [sP_1, sI_eq]
    · rw [sP_2, if_pos ⟨rfl, rfl⟩]; rfl
  rw [e8]
  refine ⟨fun z => refr (Or.inl z), fun z => ⟨fun z2 => asks (fun g => ?_), fun z2 => ⟨fun z3 => asks (fun g => ?_), fun z3 => refr (Or.inr ⟨by omega, hnp.mp z3⟩)⟩⟩⟩
  · rcases g with g | g
    · exact z g
    · have := g.1; omega
  · rcases g with g | g
    · exact z g
    · exact z3 (hnp.mpr g.2)

/-! ===== PURE PART: the reference's find ===== -/
def aI_ (a : Option Nat) : Int := match a with
  | none => -2
  | some x => (x : Int)
def fF (q : Nat) (S S' : Me) : Prop := S'.2 = S.2 ∧ ∀ a k, ¬ (a = q ∧ 39 ≤ k ∧ k ≤ 42) → a ≠ q + 22 → S'.1 a k = S.1 a k
theorem fF_rf {q : Nat} {S S' : Me} (h : fF q S S') : rf q S' = rf q S := by
  funext a k
  unfold rf
  by_cases e : scr a k
  · rw [if_pos e, if_pos e]
  · rw [if_neg e, if_neg e, h.2 _ _ (by unfold scr at e; omega) (by unfold scr at e; omega)]
theorem fF_fR {q : Nat} {S S' : Me} (h : fF q S S') : fR q S S' := ⟨h.1, fun a ha => funext fun k => h.2 a k (by omega) (by omega)⟩
theorem fF_t {q : Nat} {S S1 S2 : Me} (h : fF q S S1) (h' : fF q S1 S2) : fF q S S2 := ⟨h'.1.trans h.1, fun a k h1 h2 => (h'.2 a k h1 h2).trans (h.2 a k h1 h2)⟩
theorem fF_O {q : Nat} {S S' : Me} (h : fO q S S') : fF q S S' := ⟨h.1, fun a k h1 h2 => h.2 a k (by omega) h2⟩
theorem p_plainWaiting {V : Vt} {q : Nat} {S : Me} {Q : Int → Me → Prop} (hr : rA (rf q S)) (h : Q (cnt (pw (rf q S)) (nA_ (rf q S))) S) : PT_X12_plainWaiting V q S Q := by
  have h13 := hr.1
  have key : ∀ (fu i : Nat), nA_ (rf q S) - i < fu → i ≤ nA_ (rf q S) → B_X12_plainWaiting_4 V q Q fu (cnt (pw (rf q S)) i) (i : Int) S := by
    intro fu
    induction fu with
    | zero => intro i a; omega
    | succ fu ih =>
      intro i hf hi
      have hcb := cnt_b (pw (rf q S)) i
      have hn4 : nA_ (rf q S) ≤ 400 := by unfold nA_; omega
      unfold B_X12_plainWaiting_4
      rw [rf0 13 (by decide)]
      refine ⟨fun z => ?_, fun z => ?_⟩
      · have : i = nA_ (rf q S) := by unfold nA_ at hi ⊢; omega
        rw [this]; exact h
      · have hi1 : i < nA_ (rf q S) := by unfold nA_; omega
        have nx : ∀ w : Int, (w = ic (pw (rf q S) i)) → B_X12_plainWaiting_36 V q (B_X12_plainWaiting_4 V q Q fu) (i : Int) (cnt (pw (rf q S)) i) w S Q := by
          intro w hw
          have := ic_b (pw (rf q S) i)
          refine ⟨by unfold rng; omega, by unfold rng; omega, ?_⟩
          have g := ih (i + 1) (by omega) (by omega)
          simp only [cnt] at g
          rw [hw]
          exact g
        refine p_waits (by omega) (fun zw => ⟨fun e => absurd e (by decide), fun _ => ⟨by omega, fun z4 => ?_, fun z4 => ?_⟩⟩) (fun zw => ⟨fun _ => nx 0 (ic_0 (fun g => zw g.1.2)).symm, fun e => absurd rfl e⟩)
        · rw [tn, rfa 4 i (by decide)] at z4
          exact nx 0 (ic_0 (fun g => g.2 z4)).symm
        · rw [tn, rfa 4 i (by decide)] at z4
          exact nx 1 (ic_1 ⟨⟨by omega, zw⟩, z4⟩).symm
  exact ⟨nA_ (rf q S) + 1, key (nA_ (rf q S) + 1) 0 (by omega) (by omega)⟩
theorem p_commandOf {V : Vt} {q : Nat} {S : Me} {Q : Int → Me → Prop} {k : Nat} (hk : k < 400) (hb : 0 ≤ bk (rf q S 6 k) ∧ bk (rf q S 6 k) < 4) (h : Q (cmd (rf q S) k) S) : PT_X12_commandOf V q (k : Int) S Q := by
  unfold PT_X12_commandOf PT_X12_bankOf
  rw [tn, rfa 6 k (by decide)]
  unfold cmd at h
  refine ⟨by omega, p_isOpen hk hb (fun g => ⟨fun e => absurd e (by decide), fun _ => ⟨by omega, ?_⟩⟩) (fun g => ⟨fun _ => ⟨hb, ?_⟩, fun e => absurd rfl e⟩)⟩
  · rw [rfa 4 k (by decide)]
    rw [if_pos g] at h
    exact ⟨fun z => by rw [if_neg z] at h; exact h, fun z => by rw [if_pos z] at h; exact h⟩
  · rw [if_neg g] at h
    have e : (bXor (Int.tmod (Int.tdiv (rf q S 6 k) 16) 4) (Int.tmod (Int.tdiv (rf q S 6 k) 64) 4)) = bk (rf q S 6 k) := rfl
    rw [e, rfa 2 _ (by decide)]
    exact ⟨fun z => by rw [if_neg (by omega)] at h; exact h, fun z => by rw [if_pos (by omega)] at h; exact h⟩
theorem pw_r {R : Rm} (hr : rA R) {x : Nat} (h : pw R x) : x < 400 ∧ (0 ≤ bk (R 6 x) ∧ bk (R 6 x) < 4) ∧ 0 ≤ R 6 x ∧ R 6 x < 1024 := by
  have h1 := h.1.1
  have h2 := hr.1
  obtain ⟨-, -, r6, -⟩ := hr.2.2 x h1
  have r6 : 0 ≤ R 6 x ∧ R 6 x < 1024 := by
    rcases r6 with z | z
    · exact absurd z.1 h.2
    · exact z.2
  exact ⟨by omega, bk_b r6.1 r6.2, r6⟩
theorem p_isFirst {V : Vt} {q : Nat} {S : Me} {Q : Int → Me → Prop} {pre post : List Nat} {x : Nat} (hr : rA (rf q S)) (hl : ord (rf q S) = pre ++ x :: post) (ha : aL (S.1 (q + 22)) (ord (rf q S))) (h1 : (∀ y ∈ pre, ¬ bk (rf q S 6 y) = bk (rf q S 6 x) ∨ hR (rf q S) y) → Q 1 S) (h0 : ¬ (∀ y ∈ pre, ¬ bk (rf q S 6 y) = bk (rf q S 6 x) ∨ hR (rf q S) y) → Q 0 S) : PT_X12_isFirst V q (pre.length : Int) S Q := by
  have l12 : pre.length < 12 := by
    have := ordN_12 hr (Nat.le_refl (nA_ (rf q S)))
    have e : ordN (rf q S) (nA_ (rf q S)) = ord (rf q S) := rfl
    rw [e, hl] at this
    simp only [List.length_append, List.length_cons] at this
    omega
  have hx := pw_r hr (ord_pw hr (show x ∈ ord (rf q S) by rw [hl]; simp))
  have gx : S.1 (q + 22) pre.length = (x : Int) := ha pre.length x (by rw [hl]; simp)
  have key : ∀ (fu : Nat) (a b : List Nat) (y2 : Int), pre = a ++ b → b.length < fu → (y2 = 0 ∨ y2 = 1) → (y2 = 1 ↔ ∀ y ∈ a, ¬ bk (rf q S 6 y) = bk (rf q S 6 x) ∨ hR (rf q S) y) → B_X12_isFirst_4 V q (pre.length : Int) Q fu y2 (a.length : Int) S := by
    intro fu
    induction fu with
    | zero => intro a b y2 _ z; omega
    | succ fu ih =>
      intro a b y2 e hf h01 hy
      unfold B_X12_isFirst_4
      cases b with
      | nil =>
        have ea : pre = a := by rw [e]; simp
        subst ea
        refine ⟨fun _ => ⟨h01, ?_⟩, fun z => absurd (Int.le_refl _) z⟩
        rcases h01 with w | w
        · rw [w]; exact h0 (fun z => by have := hy.mpr z; omega)
        · rw [w]; exact h1 (hy.mp w)
      | cons y b =>
        have hlen : pre.length = a.length + 1 + b.length := by rw [e]; simp; omega
        have hyp := ord_pw hr (show y ∈ ord (rf q S) by rw [hl, e]; simp)
        have hyr := pw_r hr hyp
        have gy : S.1 (q + 22) a.length = (y : Int) := ha a.length y (by rw [hl, e]; simp)
        have nx : ∀ r : Int, (r = 0 ∨ r = 1) → (r = 1 ↔ ∀ z ∈ a ++ [y], ¬ bk (rf q S 6 z) = bk (rf q S 6 x) ∨ hR (rf q S) z) → B_X12_isFirst_62 V q (pre.length : Int) (B_X12_isFirst_4 V q (pre.length : Int) Q fu) (a.length : Int) r S Q := by
          intro r r1 r2
          refine ⟨by unfold rng; omega, ?_⟩
          have := ih (a ++ [y]) b r (by rw [e]; simp) (by simp only [List.length_cons] at hf; omega) r1 r2
          rw [show ((a ++ [y]).length : Int) = (a.length : Int) + 1 by simp] at this
          exact this
        have sp : (∀ z ∈ a ++ [y], ¬ bk (rf q S 6 z) = bk (rf q S 6 x) ∨ hR (rf q S) z) ↔ ((∀ z ∈ a, ¬ bk (rf q S 6 z) = bk (rf q S 6 x) ∨ hR (rf q S) z) ∧ (¬ bk (rf q S 6 y) = bk (rf q S 6 x) ∨ hR (rf q S) y)) := by
          constructor
          · intro z
            exact ⟨fun w hw => z w (List.mem_append_left _ hw), z y (by simp)⟩
          · rintro ⟨z1, z2⟩ w hw
            rcases List.mem_append.mp hw with v | v
            · exact z1 w v
            · rw [List.mem_singleton.mp v]; exact z2
        refine ⟨fun z => by omega, fun _ => ⟨fun z => nx 0 (Or.inl rfl) ⟨fun w => absurd w (by decide), fun w => ?_⟩, fun z => ⟨by omega, ?_⟩⟩⟩
        · have := hy.mpr (sp.mp w).1
          omega
        · dsimp only [PT_X12_bankOf]
          rw [tn, tn, gy, gx, tn, tn, rfa 6 y (by decide), rfa 6 x (by decide)]
          have hya := hy.mp (by omega)
          refine ⟨by omega, by omega, by omega, fun z2 => nx 1 (Or.inr rfl) ⟨fun _ => sp.mpr ⟨hya, Or.inl z2⟩, fun _ => rfl⟩, fun z2 => ⟨by omega, ?_⟩⟩
          refine p_heldR hyp.1.1 hr.1.2 (fun g => ⟨fun w => absurd w (by decide), fun _ => nx 1 (Or.inr rfl) ⟨fun _ => sp.mpr ⟨hya, Or.inr g⟩, fun _ => rfl⟩⟩) (fun g => ⟨fun _ => nx 0 (Or.inl rfl) ⟨fun w => absurd w (by decide), fun w => ?_⟩, fun w => absurd rfl w⟩)
          rcases (sp.mp w).2 with v | v
          · exact absurd z2 v
          · exact absurd v g
  exact ⟨pre.length + 1, key (pre.length + 1) [] pre 1 rfl (by omega) (Or.inr rfl) ⟨fun _ y hy => (by cases hy), fun _ => rfl⟩⟩
theorem p_findR {V : Vt} {q : Nat} {S : Me} {Q : Me → Prop} (hr : rA (rf q S)) (hs : rS (rf q S)) (hd : ∀ a, a < 4 → 0 ≤ rf q S 12 a ∧ rf q S 12 a ≤ 300000) (hg : rG (rf q S)) (hn : 0 ≤ rf q S 0 26 ∧ rf q S 0 26 ≤ 1000000) (h6 : rf q S 0 6 ≤ 1000000)
    (k : ∀ (cm bb : Int) (a : Option Nat) (S' : Me), Cho (rf q S) (hR (rf q S)) (rf q S 0 7) cm bb a → fF q S S' → S'.1 q 40 = cm → S'.1 q 41 = bb → S'.1 q 42 = aI_ a → Q S') : PT_X12_find V q S Q := by
  unfold PT_X12_find
  intro Sa ea Sb eb S0 e0
  have f0 : fF q S S0 := ⟨by rw [e0, sI_2, eb, sI_2, ea, sI_2], fun a k h1 h2 => by rw [e0, sI_ne (by omega), eb, sI_ne (by omega), ea, sI_ne (by omega)]⟩
  have r0 := fF_rf f0
  have v0 : S0.1 q 40 = -2 ∧ S0.1 q 41 = -2 ∧ S0.1 q 42 = -2 := ⟨by rw [e0, sI_ne (by omega), eb, sI_ne (by omega), ea, sI_eq], by rw [e0, sI_ne (by omega), eb, sI_eq], by rw [e0, sI_eq]⟩
  clear e0 eb ea
  -- the choice is written
  have wr : ∀ (S1 : Me) (cm bb y : Int) (a : Option Nat), fF q S S1 → Cho (rf q S) (hR (rf q S)) (rf q S 0 7) cm bb a → y = aI_ a → PT_X12_choose V q cm bb y S1 Q := by
    intro S1 cm bb y a f1 hc hy T1 e1 T2 e2 T3 e3
    refine k cm bb a T3 hc (fF_t f1 ⟨by rw [e3, sI_2, e2, sI_2, e1, sI_2], fun a k h1 h2 => by rw [e3, sI_ne (by omega), e2, sI_ne (by omega), e1, sI_ne (by omega)]⟩) ?_ ?_ ?_
    · rw [e3, sI_ne (by omega), e2, sI_ne (by omega), e1, sI_eq]
    · rw [e3, sI_ne (by omega), e2, sI_eq]
    · rw [e3, sI_eq, hy]
  have cg : ∀ (S1 : Me) (is b : Int) (Qi : Int → Me → Prop), fF q S S1 → (¬ is = 4 → 0 ≤ b ∧ b < 4) → (can (rf q S) is b → Qi 1 S1) → (¬ can (rf q S) is b → Qi 0 S1) → PT_X12_canGo V q is b S1 Qi := by
    intro S1 is b Qi f1 hb c1 c0
    have r1 := fF_rf f1
    refine p_canGoR hb (by rw [r1]; exact hg) (by rw [r1]; exact hn) (by rw [r1]; exact h6) (by rw [r1]; exact c1) (by rw [r1]; exact c0)
  have refr : Rfs (rf q S) (rf q S 0 7) → B_X12_find_35 V q S0 Q := by
    intro hrf
    unfold B_X12_find_35
    refine cg S0 4 (-2) _ f0 (fun e => absurd rfl e) (fun g => ⟨fun e => absurd e (by decide), fun _ => wr S0 4 (-2) (-2) none f0 (Or.inl ⟨hrf, Or.inl ⟨can_4 g, rfl, rfl⟩, rfl⟩) rfl⟩) (fun g => ⟨fun _ => ⟨5, ?_⟩, fun e => absurd rfl e⟩)
    have g : ¬ can (rf q S) 4 0 := fun z => g (can_4 z)
    have key : ∀ (fu i : Nat), 4 - i < fu → i ≤ 4 → (∀ y : Nat, y < i → ¬ can (rf q S) 1 (y : Int)) → B_X12_find_57 V q Q fu (i : Int) S0 := by
      intro fu
      induction fu with
      | zero => intro i a; omega
      | succ fu ih =>
        intro i hf hi hno
        unfold B_X12_find_57
        refine ⟨fun z => k (-2) (-2) none S0 (Or.inl ⟨hrf, Or.inr ⟨g, Or.inr ⟨fun x hx => hno x (by omega), rfl, rfl⟩⟩, rfl⟩) f0 v0.1 v0.2.1 v0.2.2, fun z => cg S0 1 (i : Int) _ f0 (fun _ => by omega) (fun g2 => ⟨fun e => absurd e (by decide), fun _ => wr S0 1 (i : Int) (-2) none f0 (Or.inl ⟨hrf, Or.inr ⟨g, Or.inl ⟨i, by omega, g2, hno, rfl, rfl⟩⟩, rfl⟩) rfl⟩) (fun g2 => ⟨fun _ => ⟨by unfold rng; omega, ih (i + 1) (by omega) (by omega) (fun y hy => ?_)⟩, fun e => absurd rfl e⟩)⟩
        by_cases e : y = i
        · subst e; exact g2
        · exact hno y (by omega)
    exact key 5 0 (by omega) (by omega) (fun y hy => by omega)
  have asks : ¬ Rfs (rf q S) (rf q S 0 7) → B_X12_find_87 V q S0 Q := by
    intro hrf
    unfold B_X12_find_87
    refine p_findOrder (by rw [r0]; exact hr) (by rw [r0]; exact hs) (by rw [r0]; exact hd) (fun S1 hO g1 g2 => ?_)
    have f1 := fF_t f0 (fF_O hO)
    have r1 := fF_rf f1
    rw [r0] at g1 g2
    have w1 : S1.1 q 40 = -2 ∧ S1.1 q 41 = -2 ∧ S1.1 q 42 = -2 := by
      rw [hO.2 q 40 (by omega) (by omega), hO.2 q 41 (by omega) (by omega), hO.2 q 42 (by omega) (by omega)]
      exact v0
    have l12 : (ord (rf q S)).length ≤ 12 := ordN_12 hr (Nat.le_refl _)
    have key : ∀ (fu : Nat) (pre l : List Nat), ord (rf q S) = pre ++ l → l.length < fu → (∀ r, Pk (rf q S) (hR (rf q S)) pre l r → Pk (rf q S) (hR (rf q S)) [] (ord (rf q S)) r) → B_X12_find_93 V q Q fu (pre.length : Int) S1 := by
      intro fu
      induction fu with
      | zero => intro pre l _ a; omega
      | succ fu ih =>
        intro pre l e hf hpk
        have hlen : (ord (rf q S)).length = pre.length + l.length := by rw [e]; simp
        unfold B_X12_find_93
        rw [g1]
        cases l with
        | nil =>
          refine ⟨fun _ => k (-2) (-2) none S1 (Or.inr ⟨hrf, Or.inl ⟨hpk none rfl, rfl, rfl, rfl⟩⟩) f1 w1.1 w1.2.1 w1.2.2, fun z => ?_⟩
          simp at hlen
          omega
        | cons x l =>
          simp only [List.length_cons] at hlen hf
          have hxp : pw (rf q S) x := ord_pw hr (by rw [e]; simp)
          have hx := pw_r hr hxp
          have gx : S1.1 (q + 22) pre.length = (x : Int) := g2 pre.length x (by rw [e]; simp)
          have hcb := cmd_b (R := rf q S) (x := x)
          have nx : ¬ gdP (rf q S) (hR (rf q S)) pre x → B_X12_find_165 V q (B_X12_find_93 V q Q fu) (pre.length : Int) S1 Q := by
            intro hng
            refine ⟨by unfold rng; omega, ?_⟩
            have := ih (pre ++ [x]) l (by rw [e]; simp) (by omega) (fun r hr => hpk r (Or.inr ⟨hng, hr⟩))
            rw [show ((pre ++ [x]).length : Int) = (pre.length : Int) + 1 by simp] at this
            exact this
          have go : ¬ hR (rf q S) x → (1 < cmd (rf q S) x ∨ ∀ y ∈ pre, ¬ bk (rf q S 6 y) = bk (rf q S 6 x) ∨ hR (rf q S) y) → B_X12_find_146 V q (B_X12_find_93 V q Q fu) (pre.length : Int) (x : Int) (cmd (rf q S) x) (bk (rf q S 6 x)) S1 Q := by
            intro hh hf1
            unfold B_X12_find_146
            refine cg S1 _ _ _ f1 (fun _ => hx.2.1) (fun g => ⟨fun z => absurd z (by decide), fun _ => wr S1 _ _ _ (some x) f1 (Or.inr ⟨hrf, Or.inr ⟨x, hpk _ (Or.inl ⟨⟨hh, hf1, g⟩, rfl⟩), rfl, rfl, rfl⟩⟩) rfl⟩) (fun g => ⟨fun _ => nx (fun z => g z.2.2), fun z => absurd rfl z⟩)
          refine ⟨fun z => by omega, fun _ => ⟨by omega, ?_⟩⟩
          rw [tn, gx]
          refine p_commandOf hx.1 (by rw [r1]; exact hx.2.1) ?_
          rw [r1]
          refine ⟨by omega, ?_⟩
          unfold PT_X12_bankOf
          rw [tn, rfa 6 x (by decide), r1]
          have eb : (bXor (Int.tmod (Int.tdiv (rf q S 6 x) 16) 4) (Int.tmod (Int.tdiv (rf q S 6 x) 64) 4)) = bk (rf q S 6 x) := rfl
          rw [eb]
          refine p_heldR (by rw [r1]; exact hxp.1.1) (by rw [r1]; exact hr.1.2) ?_ ?_
          · rw [r1]
            exact fun gh => ⟨fun _ => nx (fun z => z.1 gh), fun z => absurd z (by decide)⟩
          · rw [r1]
            refine fun gh => ⟨fun z => absurd rfl z, fun _ => ⟨fun z => go gh (Or.inl z), fun z => ?_⟩⟩
            refine p_isFirst (post := l) (x := x) (by rw [r1]; exact hr) (by rw [r1]; exact e) (by rw [r1]; exact g2) ?_ ?_
            · rw [r1]
              exact fun gf => ⟨fun z => absurd z (by decide), fun _ => go gh (Or.inr gf)⟩
            · rw [r1]
              refine fun gf => ⟨fun _ => nx (fun z2 => ?_), fun z => absurd rfl z⟩
              rcases z2.2.1 with w | w
              · exact absurd w z
              · exact gf w
    exact ⟨(ord (rf q S)).length + 1, key _ [] (ord (rf q S)) rfl (by omega) (fun r hr => hr)⟩
  rw [rf0 3 (by decide), rf0 7 (by decide), r0]
  refine ⟨fun z => refr (Or.inl z), fun z => ⟨fun z2 => asks (fun g => ?_), fun z2 => p_plainWaiting (by rw [r0]; exact hr) ?_⟩⟩
  · rcases g with g | g
    · exact z g
    · have := g.1; omega
  · rw [r0]
    have c0 := cnt_0 (p := pw (rf q S)) (nA_ (rf q S))
    refine ⟨fun z3 => asks (fun g => ?_), fun z3 => refr (Or.inr ⟨by omega, fun k hk => c0.mp z3 k (wt_n hr k hk.1) hk⟩)⟩
    rcases g with g | g
    · exact z g
    · exact z3 (c0.mpr (fun i _ => g.2 i))

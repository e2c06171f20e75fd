/-! ===== PURE PART: the reference's begin ===== -/
def bhR (R : Rm) (k i : Nat) : Prop := ∃ j, j < i ∧ wt R j ∧ R 5 j = R 5 k
theorem bhR_s {R : Rm} {k i : Nat} (hi : (i : Int) < R 0 13) : bhR R k (i + 1) ↔ bhR R k i ∨ (R 10 i = 0 ∧ R 5 i = R 5 k) := by
  constructor
  · rintro ⟨j, a, b, d⟩
    by_cases e : j = i
    · subst e; exact Or.inr ⟨b.2, d⟩
    · exact Or.inl ⟨j, by omega, b, d⟩
  · rintro (⟨j, a, b, d⟩ | ⟨b, d⟩)
    · exact ⟨j, by omega, b, d⟩
    · exact ⟨i, by omega, ⟨hi, b⟩, d⟩
theorem p_isBehind {V : Vt} {q : Nat} {S : Me} {Q : Int → Me → Prop} {k : Nat} (hk : (k : Int) < rf q S 0 13) (h4 : rf q S 0 13 ≤ 400) (h1 : ¬ bhR (rf q S) k k → Q 1 S) (h0 : bhR (rf q S) k k → Q 0 S) : PT_X12_isBehind V q (k : Int) S Q := by
  have key : ∀ (fu i : Nat) (y2 : Int), k - i < fu → i ≤ k → (y2 = 0 ∨ y2 = 1) → (y2 = 0 ↔ bhR (rf q S) k i) → B_X12_isBehind_4 V q (k : Int) Q fu y2 (i : Int) S := by
    intro fu
    induction fu with
    | zero => intro i y2 a; omega
    | succ fu ih =>
      intro i y2 hf hik h01 hy
      unfold B_X12_isBehind_4
      refine ⟨fun z => ?_, fun z => ?_⟩
      · have e : i = k := by omega
        subst e
        refine ⟨h01, ?_⟩
        rcases h01 with w | w
        · rw [w]; exact h0 (hy.mp w)
        · rw [w]; exact h1 (fun z => by have := hy.mpr z; omega)
      · have s := bhR_s (R := rf q S) (k := k) (i := i) (by omega)
        have c0 : bhR (rf q S) k (i + 1) → B_X12_isBehind_40 V q (k : Int) (B_X12_isBehind_4 V q (k : Int) Q fu) (i : Int) S Q := fun w => ⟨by unfold rng; omega, by have := ih (i + 1) 0 (by omega) (by omega) (Or.inl rfl) ⟨fun _ => w, fun _ => rfl⟩; exact this⟩
        have c1 : ¬ bhR (rf q S) k (i + 1) → B_X12_isBehind_36 V q (k : Int) (B_X12_isBehind_4 V q (k : Int) Q fu) (i : Int) S Q := fun w => ⟨by unfold rng; omega, by have := ih (i + 1) 1 (by omega) (by omega) (Or.inr rfl) ⟨fun e => absurd e (by decide), fun e => absurd e w⟩; exact this⟩
        refine ⟨fun w => c0 (s.mpr (Or.inl (hy.mp w))), fun w => ?_⟩
        have w' : ¬ bhR (rf q S) k i := fun e => w (hy.mpr e)
        refine p_waits (by omega) (fun g => ⟨fun e => absurd e (by decide), fun _ => ⟨by omega, by omega, ?_⟩⟩) (fun g => ⟨fun _ => c1 (fun e => ?_), fun e => absurd rfl e⟩)
        · rw [tn, tn, rfa 5 i (by decide), rfa 5 k (by decide)]
          refine ⟨fun e => c0 (s.mpr (Or.inr ⟨g, e⟩)), fun e => c1 (fun v => ?_)⟩
          rcases s.mp v with v | v
          · exact w' v
          · exact e v.2
        · rcases s.mp e with v | v
          · exact w' v
          · exact g v.1
  refine ⟨k + 1, key (k + 1) 0 1 (by omega) (by omega) (Or.inr rfl) ⟨fun e => absurd e (by decide), fun ⟨j, j1, _⟩ => by omega⟩⟩
theorem bgi_0 {R : Rm} (hr : rA R) : bgi R 0 = uR R 0 7 (owR R) := by
  funext a k
  rw [uR_1]
  by_cases q : a = 0 ∧ k = 7
  · rw [if_pos q, q.1, q.2, bgi_7]
  · rw [if_neg q]
    by_cases q2 : a = 10
    · subst q2
      rw [bgi_10, ifP_0 (fun z => by omega)]
    · by_cases q3 : a = 0 ∧ k = 14
      · rw [q3.1, q3.2, bgi_14, hr.2.1.1]
        exact cnt_congr _ (fun i _ => ⟨fun z => z.1, fun z => ⟨z, fun w => by omega⟩⟩)
      · rw [bgi_o q2 (by omega)]
def fG (q : Nat) (S S' : Me) : Prop := S'.2 = S.2 ∧ ∀ a k, a ≠ q + 10 → ¬ (a = q ∧ (k = 7 ∨ k = 14)) → S'.1 a k = S.1 a k
theorem fG_fR {q : Nat} {S S' : Me} (h : fG q S S') : fR q S S' := ⟨h.1, fun a ha => funext fun k => h.2 a k (by omega) (by omega)⟩
theorem p_beginR {V : Vt} {q : Nat} {S : Me} {Q : Me → Prop} (hX : fX12 V q) (hr : rA (rf q S)) (hs : rS (rf q S)) (h6 : 1 ≤ rf q S 0 6 ∧ rf q S 0 6 ≤ 1000000) (h7 : 0 ≤ rf q S 0 7 ∧ rf q S 0 7 ≤ 1000000)
    (k : ∀ S', fG q S S' → rf q S' = begR (rf q S) → Q S') : PT_X12_begin V q S Q := by
  have h13 := hr.1
  have key : ∀ (fu i : Nat) (S1 : Me), nA_ (rf q S) - i < fu → i ≤ nA_ (rf q S) → fG q S S1 → rf q S1 = bgi (rf q S) i → B_X12_begin_35 V q Q fu (i : Int) S1 := by
    intro fu
    induction fu with
    | zero => intro i S1 a; omega
    | succ fu ih =>
      intro i S1 hf hi hG e1
      unfold B_X12_begin_35
      rw [rf0 13 (by decide), e1, bgi_o (by decide) (by decide)]
      refine ⟨fun z => ?_, fun z => ?_⟩
      · have : i = nA_ (rf q S) := by unfold nA_ at hi ⊢; omega
        subst this
        exact k S1 hG e1
      · have hi1 : i < nA_ (rf q S) := by unfold nA_; omega
        have nx : ∀ S2 : Me, fG q S S2 → rf q S2 = bgi (rf q S) (i + 1) → B_X12_begin_74 V q (B_X12_begin_35 V q Q fu) (i : Int) S2 Q := fun S2 hG2 e2 => ⟨by unfold rng; omega, by have := ih (i + 1) S2 (by omega) (by omega) hG2 e2; exact this⟩
        have nf : ¬ frF (rf q S) i → bgi (rf q S) (i + 1) = bgi (rf q S) i := fun w => bgi_sk (by omega) (fun k k1 k2 => by
          have : k = i := by omega
          subst this; exact w)
        have e10 : rf q S1 10 i = rf q S 10 i := by rw [e1, bgi_10, ifP_0 (fun w => by omega)]
        refine p_waits (by omega) (fun zw => ⟨fun e => absurd e (by decide), fun _ => ⟨by omega, ?_⟩⟩) (fun zw => ⟨fun _ => nx S1 hG (by rw [nf, e1]; exact fun w => zw (by rw [e10]; exact w.1.1.2)), fun e => absurd rfl e⟩)
        rw [e10] at zw
        rw [tn, rfa 4 i (by decide), e1, bgi_o (by decide) (by omega)]
        refine ⟨fun z4 => nx S1 hG (by rw [nf, e1]; exact fun w => z4 w.1.2), fun z4 => ?_⟩
        have hfw : fw (rf q S) i := ⟨⟨by omega, zw⟩, z4⟩
        have hbh : bhR (bgi (rf q S) i) i i ↔ ¬ frF (rf q S) i := by
          constructor
          · rintro ⟨j, j1, j2, j3⟩ w
            rw [bgi_a (by decide) (by decide)] at j3
            obtain ⟨w1, w2⟩ := (bgi_wt h6.1).mp j2
            by_cases q4 : rf q S 4 j = 4
            · refine w2 ⟨j1, ⟨w1, q4⟩, fun l hl g => w.2 l (by omega) ⟨g.1, by rw [g.2, j3]⟩⟩
            · exact w.2 j j1 ⟨⟨w1, q4⟩, j3⟩
          · intro w
            refine Classical.byContradiction fun no => w ⟨hfw, fun j hj g => no ⟨j, hj, (bgi_wt h6.1).mpr ⟨g.1.1, fun v => frF_n v.2 g.1⟩, ?_⟩⟩
            rw [bgi_a (by decide) (by decide)]; exact g.2
        refine p_isBehind (by rw [e1, bgi_o (by decide) (by decide)]; omega) (by rw [e1, bgi_o (by decide) (by decide)]; omega) ?_ ?_
        · rw [e1]
          intro g
          have hfr : frF (rf q S) i := Classical.byContradiction fun w => g (hbh.mpr w)
          refine ⟨fun e => absurd e (by decide), fun _ => ?_⟩
          unfold PT_X12_finish
          rw [tn, rf0 6 (by decide), e1, bgi_o (by decide) (by decide)]
          refine ⟨by omega, fun S3 e3 => ?_⟩
          have e3r : rf q S3 = uR (bgi (rf q S) i) 10 i (rf q S 0 6) := by rw [e3, rf_w (by unfold scr; omega), e1]
          have e14 : S3.1 q 14 = bgi (rf q S) i 0 14 := by rw [rf0 14 (by decide), e3r, uR_1, if_neg (by omega)]
          rw [e14]
          have cb := cnt_b (fun j => wt (rf q S) j ∧ ¬ (j < i ∧ frF (rf q S) j)) (nA_ (rf q S))
          rw [← bgi_14] at cb
          have hn4 : nA_ (rf q S) ≤ 400 := by unfold nA_; omega
          refine ⟨by unfold rng; omega, fun S6 e6 => ⟨by omega, ?_⟩⟩
          have e6r : rf q S6 = bgi (rf q S) (i + 1) := by rw [e6, rf_w0 (by unfold scr; omega), e3r, bgi_s hr hfr]
          have fg6 : fG q S S6 := ⟨by rw [e6, sI_2, e3, sI_2, hG.1], fun a k h1 h2 => by rw [e6, sI_ne (by omega), e3, sI_na h1, hG.2 a k h1 h2]⟩
          rw [rfa 4 i (by decide), e6r, bgi_o (by decide) (by omega)]
          exact ⟨fun _ => nx S6 fg6 e6r, fun w => absurd z4 w⟩
        · rw [e1]
          intro g
          exact ⟨fun _ => nx S1 hG (by rw [nf (hbh.mp g), e1]), fun e => absurd rfl e⟩
  have st : ∀ w : Int, rf q S 0 7 + w = owR (rf q S) → (w = 0 ∨ w = 1) → B_X12_begin_29 V q (some q) (rf q S 0 7) w S Q := by
    intro w hw w01
    refine ⟨by unfold rng; omega, q, rfl, hX, fun S16 e16 => ⟨nA_ (rf q S) + 1, key (nA_ (rf q S) + 1) 0 S16 (by omega) (by omega) ⟨by rw [e16, sI_2], fun a k h1 h2 => by rw [e16, sI_ne (by omega)]⟩ ?_⟩⟩
    rw [e16, rf_w0 (by unfold scr; omega), hw, bgi_0 hr]
  unfold PT_X12_begin
  rw [rf0 2 (by decide), rf0 7 (by decide), rf0 6 (by decide)]
  have hs2 := hs.2.1
  have em : Int.tmod (rf q S 0 6) (rf q S 0 2) = rf q S 0 6 % rf q S 0 2 := tmod_e (by omega)
  rw [em]
  refine ⟨fun z => st 0 ?_ (Or.inl rfl), fun z => ⟨by omega, fun z2 => st 0 ?_ (Or.inl rfl), fun z2 => st 1 ?_ (Or.inr rfl)⟩⟩
  · unfold owR
    rw [if_neg (by omega)]; omega
  · unfold owR
    rw [if_neg (fun w => z2 w.2)]; omega
  · unfold owR
    rw [if_pos ⟨by omega, z2⟩]

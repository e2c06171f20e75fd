/-! ===== PURE PART: pairs: worst, look, at, next, run, drain ===== -/
theorem pr_worst {o : Nat} {V : Vt} {S : Me} {n x1 : Int} (h : jJ o V S n) : PT_X11_worst V o x1 S (fun r S1 => PT_X12_worst V (o + 42) x1 S1 (fun r2 S2 => r2 = r ∧ jJ o V S2 n)) := by
  obtain ⟨c, hT⟩ := jJ_st h
  obtain ⟨hI, hg, hl⟩ := id hT
  obtain ⟨hV, hS, hP, hG, hL, hrL, hM, hrM, hA, hrA, hrO, hQ, hW, hH, hs⟩ := hI
  have h13 := hrA.1
  have hg1 := hg.1
  refine p_asker (fun g => ⟨fun e => absurd e (by decide), fun _ => ⟨by omega, fun S1 e1 => ?_⟩⟩) (fun g => ⟨fun _ S1 e1 => ?_, fun e => absurd rfl e⟩)
  · obtain ⟨t1, t2⟩ := th_0 e1
    refine ⟨fun _ => ?_, fun z => absurd g (isin_0.mp z)⟩
    obtain ⟨w1, w2⟩ := hW x1.toNat (by omega)
    have ea : ((x1.toNat : Nat) : Int) = x1 := by omega
    have fin : ∀ y2 : Int, (∀ k, wD (rf (o + 42) S) x1.toNat k → rf (o + 42) S 10 k - rf (o + 42) S 9 k ≤ y2) → (y2 = -2 ∨ ∃ k, wD (rf (o + 42) S) x1.toNat k ∧ rf (o + 42) S 10 k - rf (o + 42) S 9 k = y2) → y2 = S.1 (o + 28 + 4) x1.toNat := by
      intro y2 u1 u2
      have nn : ∀ k, wD (rf (o + 42) S) x1.toNat k → 0 ≤ rf (o + 42) S 10 k - rf (o + 42) S 9 k := by
        intro k hk
        have := (hrA.2.2 k hk.1).2.2.2.2.2.2.1
        have := hk.2.2.2
        omega
      rcases u2 with u2 | ⟨k, k1, k2⟩ <;> rcases w2 with w2 | ⟨k', k1', k2'⟩
      · omega
      · have a1 := u1 k' k1'
        have a2 := nn k' k1'
        clear w1 u1
        omega
      · have a1 := w1 k k1
        have a2 := nn k k1
        clear w1 u1
        omega
      · have a1 := w1 k k1
        have a2 := u1 k' k1'
        clear w1 u1
        omega
    have key : ∀ (fu i : Nat) (y2 : Int), nA_ (rf (o + 42) S) - i < fu → i ≤ nA_ (rf (o + 42) S) → (-2 ≤ y2 ∧ y2 ≤ 300000) → (∀ k, k < i → wD (rf (o + 42) S) x1.toNat k → rf (o + 42) S 10 k - rf (o + 42) S 9 k ≤ y2) → (y2 = -2 ∨ ∃ k, wD (rf (o + 42) S) x1.toNat k ∧ rf (o + 42) S 10 k - rf (o + 42) S 9 k = y2) → B_X12_worst_24 V (o + 42) x1 (fun r2 S2 => r2 = S.1 (o + 28 + 4) x1.toNat ∧ jJ o V S2 n) fu y2 (i : Int) S1 := by
      intro fu
      induction fu with
      | zero => intro i y2 a; omega
      | succ fu ih =>
        intro i y2 hf hi hb u1 u2
        have hn4 : nA_ (rf (o + 42) S) ≤ 400 := by unfold nA_; omega
        unfold B_X12_worst_24
        rw [rf0 (q := o + 42) (S := S1) 13 (by decide), t2]
        refine ⟨fun z => ?_, fun z => ?_⟩
        · have e : i = nA_ (rf (o + 42) S) := by clear u1 u2; unfold nA_ at hi ⊢; omega
          exact ⟨fin y2 (fun k hk => u1 k (by rw [e]; exact (nA_i hrA k).mpr hk.1) hk) u2, jJ_end hT t1 t2⟩
        · have hi1 : i < nA_ (rf (o + 42) S) := by clear u1 u2; unfold nA_; omega
          have hi2 : i < 400 := by clear u1 u2; omega
          have hf2 : nA_ (rf (o + 42) S) - (i + 1) < fu := by clear u1 u2; omega
          have hir := (nA_i hrA i).mp hi1
          have sk : ¬ wD (rf (o + 42) S) x1.toNat i → B_X12_worst_81 V (o + 42) x1 (B_X12_worst_24 V (o + 42) x1 (fun r2 S2 => r2 = S.1 (o + 28 + 4) x1.toNat ∧ jJ o V S2 n) fu) y2 (i : Int) S1 (fun r2 S2 => r2 = S.1 (o + 28 + 4) x1.toNat ∧ jJ o V S2 n) := by
            intro nw
            refine ⟨fun _ => ⟨by clear u1 u2; unfold rng; omega, ih (i + 1) y2 hf2 hi1 hb (fun k hk hw => ?_) u2⟩, fun e => absurd rfl e⟩
            rcases Nat.lt_or_ge k i with w | w
            · exact u1 k w hw
            · have : k = i := Nat.le_antisymm (Nat.le_of_lt_succ hk) w
              rw [this] at hw
              exact absurd hw nw
          have i400 : (0 : Int) ≤ (i : Int) ∧ (i : Int) < 400 := by clear u1 u2; omega
          rw [tn, rfa (q := o + 42) (S := S1) 5 i (by decide), rfa (q := o + 42) (S := S1) 4 i (by decide), t2]
          refine ⟨i400, fun z5 => sk (fun w => z5 (by rw [w.2.1, ea])), fun z5 => ⟨i400, fun z4 => sk (fun w => w.2.2.1 z4), fun z4 => p_waits hi2 ?_ ?_⟩⟩
          · rw [t2]
            exact fun zw => ⟨fun _ => sk (fun w => w.2.2.2 zw), fun e => absurd e (by decide)⟩
          · rw [t2]
            intro zw
            refine ⟨fun e => absurd rfl e, fun _ => ⟨i400, i400, ?_⟩⟩
            have hwi : wD (rf (o + 42) S) x1.toNat i := ⟨hir, by rw [ea]; exact z5, z4, zw⟩
            obtain ⟨-, -, -, -, -, m6, m7, -⟩ := hrA.2.2 i hir
            have hd : 0 ≤ rf (o + 42) S 10 i - rf (o + 42) S 9 i ∧ rf (o + 42) S 10 i - rf (o + 42) S 9 i ≤ 300000 := by clear u1 u2; omega
            rw [rfa (q := o + 42) (S := S1) 10 i (by decide), rfa (q := o + 42) (S := S1) 9 i (by decide), t2]
            have hrg : rng (rf (o + 42) S 10 i - rf (o + 42) S 9 i) := by clear u1 u2; unfold rng; omega
            refine ⟨hrg, fun zl => ⟨fun _ => ⟨by clear u1 u2; unfold rng; omega, ih (i + 1) y2 hf2 hi1 hb (fun k hk hw => ?_) u2⟩, fun e => absurd rfl e⟩, fun zl => ⟨fun e => absurd e (by decide), fun _ => ⟨i400, i400, ?_⟩⟩⟩
            · rcases Nat.lt_or_ge k i with w | w
              · exact u1 k w hw
              · have : k = i := Nat.le_antisymm (Nat.le_of_lt_succ hk) w
                rw [this]; exact zl
            · rw [tn, rfa (q := o + 42) (S := S1) 10 i (by decide), rfa (q := o + 42) (S := S1) 9 i (by decide), t2]
              refine ⟨hrg, by clear u1 u2; unfold rng; omega, ih (i + 1) _ hf2 hi1 (by clear u1 u2; omega) (fun k hk hw => ?_) (Or.inr ⟨i, hwi, rfl⟩)⟩
              rcases Nat.lt_or_ge k i with w | w
              · have := u1 k w hw
                clear u1 u2
                omega
              · have : k = i := Nat.le_antisymm (Nat.le_of_lt_succ hk) w
                rw [this]; exact Int.le_refl _
    exact ⟨nA_ (rf (o + 42) S) + 1, key (nA_ (rf (o + 42) S) + 1) 0 (-2) (by omega) (by omega) (by omega) (fun k hk => by omega) (Or.inl rfl)⟩
  · obtain ⟨t1, t2⟩ := th_0 e1
    exact ⟨fun z => absurd (isin_1.mp z) g, fun _ => ⟨rfl, jJ_end hT t1 t2⟩⟩
theorem hC_hR {R : Rm} {k : Nat} (hr : rA R) (hk : wt R k) : hC R k 1 ↔ hR R k := by
  constructor
  · rintro ⟨i, i1, i2, i3⟩
    refine ⟨hk, i, i1, i2, ?_⟩
    rcases i3 with z | z
    · refine Or.inr ⟨z, fun z4 => ?_⟩
      have a := (hr.2.2 k hk.1).2.2.1
      have b := (hr.2.2 i i2.1).2.2.1
      have e := z.2.1
      have n4 := z.1
      omega
    · exact Or.inl ⟨z.2.1, z.1⟩
  · rintro ⟨-, i, i1, i2, i3⟩
    refine ⟨i, i1, i2, ?_⟩
    rcases i3 with z | z
    · exact Or.inr ⟨z.2, z.1, Or.inl (by decide)⟩
    · exact Or.inl z.1
theorem p_isAsk {V : Vt} {q : Nat} {x : Int} {S : Me} {Q : Int → Me → Prop} (h1 : 0 ≤ x ∧ x < rf q S 0 13 → Q 1 S) (h0 : ¬ (0 ≤ x ∧ x < rf q S 0 13) → Q 0 S) : PT_X12_isAsk V q x S Q := by
  unfold PT_X12_isAsk
  rw [rf0 13 (by decide)]
  exact ⟨fun z => h0 (by omega), fun z => ⟨fun z2 => h0 (by omega), fun z2 => h1 (by omega)⟩⟩
theorem p_qfind {o : Nat} {V : Vt} {S : Me} {c : Nat → Nat} {R : Rm} {x : Int} {Q : Option Nat → Me → Prop} (hA : cA o V S c R) (hr : rA R) (hq : S.1 (o + 28) 6 = R 0 13) (h1 : ∀ k : Nat, x = (k : Int) → (k : Int) < R 0 13 → Q (some (c k)) S) (h0 : ¬ (0 ≤ x ∧ x < R 0 13) → Q none S) : PT_X7_find V (o + 28) x S Q := by
  unfold PT_X7_find B_X7_find_12
  rw [hq]
  have h13 := hr.1
  refine ⟨fun z => h0 (by omega), fun z => ⟨fun z2 => ⟨by omega, ?_⟩, fun z2 => h0 (by omega)⟩⟩
  rw [(hA x.toNat (by omega)).1.1]
  exact h1 x.toNat (by omega) (by omega)
theorem pr_look {o : Nat} {V : Vt} {S : Me} {n x1 x2 : Int} (h : jJ o V S n) : PT_X11_look V o x1 x2 S (fun r S1 => PT_X12_look V (o + 42) x1 x2 S1 (fun r2 S2 => r2 = r ∧ jJ o V S2 n)) := by
  obtain ⟨c, hT⟩ := jJ_st h
  obtain ⟨hV, hS, hP, hG, hL, hrL, hM, hrM, hA, hrA, hrO, hQ, hW, hH, hs⟩ := hT.1
  have h13 := hrA.1
  have bad : ¬ ((0 ≤ x1 ∧ x1 < rf (o + 42) S 0 13) ∧ (0 ≤ x2 ∧ x2 ≤ 6)) → PT_X12_look V (o + 42) x1 x2 S (fun r2 S2 => r2 = -1 ∧ jJ o V S2 n) := by
    intro hb S1 e1
    obtain ⟨t1, t2⟩ := th_0 e1
    refine p_isAsk ?_ ?_
    · rw [t2]
      exact fun g => ⟨fun e => absurd e (by decide), fun _ => ⟨fun z => absurd ⟨g, isin_1.mp z⟩ hb, fun _ => ⟨rfl, jJ_end hT t1 t2⟩⟩⟩
    · rw [t2]
      exact fun g => ⟨fun _ => ⟨rfl, jJ_end hT t1 t2⟩, fun e => absurd rfl e⟩
  unfold PT_X11_look
  refine p_qfind hA hrA hQ.1.1 (fun k ek hk => ⟨fun _ => ?_, fun e => by cases e⟩) (fun g => ⟨fun e => absurd rfl e, fun _ => bad (fun z => g z.1)⟩)
  obtain ⟨⟨a1, a2, a3, a4, a5⟩, ⟨b0, b1, b2, b3, b4, b5⟩, ⟨b6, b7⟩, -⟩ := hA k hk
  have k4 : k < 400 := by omega
  have ref : ∀ r : Int, (0 ≤ x2 ∧ x2 ≤ 6) → (x2 = 0 → r = rf (o + 42) S 4 k) → (x2 = 1 → r = rf (o + 42) S 5 k) → (x2 = 2 → r = rf (o + 42) S 6 k) → (x2 = 3 → r = rf (o + 42) S 9 k) → (x2 = 4 → r = rf (o + 42) S 10 k) → (x2 = 5 → r = rf (o + 42) S 11 k) → (x2 = 6 → (hR (rf (o + 42) S) k → r = 1) ∧ (¬ hR (rf (o + 42) S) k → r = 0)) → PT_X12_look V (o + 42) x1 x2 S (fun r2 S2 => r2 = r ∧ jJ o V S2 n) := by
    intro r g2 r0 r1 r2 r3 r4 r5 r6 S1 e1
    obtain ⟨t1, t2⟩ := th_0 e1
    have j := jJ_end hT t1 t2
    refine p_isAsk ?_ ?_
    · rw [t2]
      refine fun _ => ⟨fun e => absurd e (by decide), fun _ => ⟨fun _ => ?_, fun z => absurd g2 (isin_0.mp z)⟩⟩
      rw [ek, tn, rfa (q := o + 42) (S := S1) 4 _ (by decide), rfa (q := o + 42) (S := S1) 5 _ (by decide), rfa (q := o + 42) (S := S1) 6 _ (by decide), rfa (q := o + 42) (S := S1) 9 _ (by decide), rfa (q := o + 42) (S := S1) 10 _ (by decide), rfa (q := o + 42) (S := S1) 11 _ (by decide), t2]
      refine ⟨fun e => ⟨by omega, (r0 e).symm, j⟩, fun e => ⟨by omega, (r1 e).symm, j⟩, fun e => ⟨by omega, (r2 e).symm, j⟩, fun e => ⟨by omega, (r3 e).symm, j⟩, fun e => ⟨by omega, (r4 e).symm, j⟩, fun e => ⟨by omega, (r5 e).symm, j⟩, fun e => ?_⟩
      obtain ⟨q1, q0⟩ := r6 (by omega)
      refine p_heldR (by rw [t2]; exact hk) (by rw [t2]; exact h13.2) ?_ ?_
      · rw [t2]; exact fun g => ⟨fun z => absurd z (by decide), fun _ => ⟨(q1 g).symm, j⟩⟩
      · rw [t2]; exact fun g => ⟨fun _ => ⟨(q0 g).symm, j⟩, fun z => absurd rfl z⟩
    · rw [t2]
      exact fun g => absurd (by omega) g
  refine ⟨fun e => ⟨c k, rfl, a4, pv_kind a4 (ref _ (by omega) (fun _ => a5) (by omega) (by omega) (by omega) (by omega) (by omega) (by omega))⟩, fun e => ⟨c k, rfl, a4, ref _ (by omega) (by omega) (fun _ => b1) (by omega) (by omega) (by omega) (by omega) (by omega)⟩, fun e => ⟨c k, rfl, a4, ref _ (by omega) (by omega) (by omega) (fun _ => b2) (by omega) (by omega) (by omega) (by omega)⟩, fun e => ⟨c k, rfl, a4, ref _ (by omega) (by omega) (by omega) (by omega) (fun _ => b5) (by omega) (by omega) (by omega)⟩, fun e => ⟨c k, rfl, a4, ref _ (by omega) (by omega) (by omega) (by omega) (by omega) (fun _ => b6) (by omega) (by omega)⟩, fun e => ⟨c k, rfl, a4, ref _ (by omega) (by omega) (by omega) (by omega) (by omega) (by omega) (fun _ => b7) (by omega)⟩, fun e => ⟨c k, rfl, a4, ?_⟩, fun e => bad (by omega)⟩
  rw [b6]
  refine ⟨fun z => ref 0 (by omega) (by omega) (by omega) (by omega) (by omega) (by omega) (by omega) (fun _ => ⟨fun g => absurd g.1.2 z, fun _ => rfl⟩), fun z => ?_⟩
  have hwk : wt (rf (o + 42) S) k := ⟨hk, z⟩
  have eq := hC_hR hrA hwk
  refine p_heldC (fun i hi => wt_n hrA i hi) (cA_aK hA hrA) hQ.2.2 hwk (fun g => ⟨fun w => absurd w (by decide), fun _ => ref 1 (by omega) (by omega) (by omega) (by omega) (by omega) (by omega) (by omega) (fun _ => ⟨fun _ => rfl, fun w => absurd (eq.mp g) w⟩)⟩) (fun g => ⟨fun _ => ref 0 (by omega) (by omega) (by omega) (by omega) (by omega) (by omega) (by omega) (fun _ => ⟨fun w => absurd (eq.mpr w) g, fun _ => rfl⟩), fun w => absurd rfl w⟩)
theorem fC_rf {o : Nat} {V : Vt} {S S' : Me} {c : Nat → Nat} {R : Rm} (hA : cA o V S c R) (hr : rA R) (h : fC o c (nA_ R) S S') : rf (o + 42) S' = rf (o + 42) S := rf_c (fun a a1 a2 => fC_1 h (by omega) (cA_lo hA hr (by omega)))
theorem jT_fC {o : Nat} {V : Vt} {S S' : Me} {c : Nat → Nat} {R : Rm} {n : Int} (h : jT o V S c R n) (hf : fC o c (nA_ R) S S') : jT o V S' c R n := ⟨jI_fC h.1 hf, gB_c (fC_1 hf (by omega) (cA_lo h.1.2.2.2.2.2.2.2.2.1 h.1.2.2.2.2.2.2.2.2.2.1 (by omega))) h.2.1, h.2.2⟩
theorem pr_at {o : Nat} {V : Vt} {S : Me} {n x1 : Int} (h : jJ o V S n) : PT_X11_at V o x1 S (fun r S1 => PT_X12_at V (o + 42) x1 S1 (fun r2 S2 => r2 = r ∧ jJ o V S2 n)) := by
  obtain ⟨c, hT⟩ := jJ_st h
  obtain ⟨hI, hg, hl⟩ := id hT
  obtain ⟨hV, hS, hP, hG, hL, hrL, hM, hrM, hA, hrA, hrO, hQ, hW, hH, hs⟩ := hI
  have l12 : (ord (rf (o + 42) S)).length ≤ 12 := ordN_12 hrA (Nat.le_refl _)
  unfold PT_X11_at
  rw [hS.1.2.2.2.2.1, hS.1.2.2.2.2.2.1]
  refine ⟨fun z0 => p_arrange hV hM hA hrA hQ hg hs (fun r S1 hb hsg => ?_), fun z0 S1 e1 => ?_⟩
  · have hf := fC_B (o := o) hb
    have hT1 := jT_fC hT hf
    have eR := fC_rf hA hrA hf
    have hA1 := hT1.1.2.2.2.2.2.2.2.2.1
    have ref : ∀ r : Int, ((ord (rf (o + 42) S)).length ≤ x1.toNat → r = -2) → (∀ x, (ord (rf (o + 42) S))[x1.toNat]? = some x → r = (x : Int)) → PT_X12_at V (o + 42) x1 S1 (fun r2 S2 => r2 = r ∧ jJ o V S2 n) := by
      intro r q0 q1 S2 e2
      obtain ⟨t1, t2⟩ := th_0 e2
      rw [eR] at t2
      refine ⟨fun _ => p_findOrder (by rw [t2]; exact hrA) (by rw [t2]; exact hs) (fun a ha => by rw [t2]; have := hg.2.2.2.2.2.2.2 a ha; have := hg.1; omega) (fun S3 hO g1 g2 => ?_), fun z => absurd z0 z⟩
      rw [t2] at g1 g2
      have j := jJ_end hT1 (fR_tr t1 (fO_fR hO)) (by rw [fO_rf hO, t2])
      rw [g1]
      refine ⟨fun z => ⟨(q0 (by omega)).symm, j⟩, fun z => ⟨by omega, ?_, j⟩⟩
      have hlt : x1.toNat < (ord (rf (o + 42) S)).length := by omega
      have e := List.getElem?_eq_getElem hlt
      rw [g2 _ _ e, ← q1 _ e]
    have key : ∀ (fu : Nat) (pre l : List Nat) (y3 : Option Nat), ord (rf (o + 42) S) = pre ++ l → l.length < fu → Sg S1 c y3 l none → (pre.length : Int) ≤ x1 → B_X11_at_28 V o x1 (fun r S1 => PT_X12_at V (o + 42) x1 S1 (fun r2 S2 => r2 = r ∧ jJ o V S2 n)) fu (pre.length : Int) y3 S1 := by
      intro fu
      induction fu with
      | zero => intro pre l y3 _ a; omega
      | succ fu ih =>
        intro pre l y3 e hf2 hsg hx
        have hlen : (ord (rf (o + 42) S)).length = pre.length + l.length := by rw [e]; simp
        unfold B_X11_at_28
        cases l with
        | nil =>
          have ey : y3 = none := hsg
          simp only [List.length_nil] at hlen
          refine ⟨fun _ => ref (-2) (fun _ => rfl) (fun x hx' => ?_), fun z => absurd ey z⟩
          have := (List.getElem?_eq_some_iff.mp hx').1
          omega
        | cons x l =>
          obtain ⟨ex, hsg⟩ := hsg
          simp only [List.length_cons] at hlen hf2
          have hp := ord_pw hrA (show x ∈ ord (rf (o + 42) S) by rw [e]; simp)
          obtain ⟨⟨a1, a2, a3, a4, a5⟩, ⟨b0, -⟩, -⟩ := hA1 x hp.1.1
          refine ⟨fun z => (by rw [ex] at z; cases z), fun _ => ⟨fun z => ⟨by unfold rng; omega, c x, ex, a4, ?_⟩, fun z => ⟨c x, ex, a4, ?_⟩⟩⟩
          · have := ih (pre ++ [x]) l _ (by rw [e]; simp) (by omega) hsg (by simp; omega)
            rw [show ((pre ++ [x]).length : Int) = (pre.length : Int) + 1 by simp] at this
            exact this
          · rw [b0]
            refine ref _ (fun w => by omega) (fun y hy => ?_)
            rw [show x1.toNat = pre.length by omega, e] at hy
            simp at hy
            rw [hy]
    exact ⟨(ord (rf (o + 42) S)).length + 1, key _ [] (ord (rf (o + 42) S)) r rfl (by omega) hsg z0⟩
  · obtain ⟨t1, t2⟩ := th_0 e1
    exact ⟨fun z => absurd z z0, fun _ => ⟨rfl, jJ_end hT t1 t2⟩⟩

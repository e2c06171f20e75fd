/-! ===== PURE PART: RowBank.passTick; ticks of both ===== -/
theorem Cho_c {R : Rm} {hp hp' : Nat → Prop} {w cm bb : Int} {a : Option Nat} (h : ∀ x ∈ ord R, (hp x ↔ hp' x)) (hc : Cho R hp w cm bb a) : Cho R hp' w cm bb a := by
  rcases hc with hc | ⟨r, hc⟩
  · exact Or.inl hc
  · refine Or.inr ⟨r, ?_⟩
    rcases hc with ⟨p, e⟩ | ⟨x, p, e⟩
    · exact Or.inl ⟨Pk_c _ _ _ (fun x hx => by cases hx) h p, e⟩
    · exact Or.inr ⟨x, Pk_c _ _ _ (fun x hx => by cases hx) h p, e⟩
/-- one tick of the reference -/
def Tk (R R' : Rm) : Prop := ∃ (cm bb : Int) (a : Option Nat), Cho (begR R) (fun x => hC (begR R) x 0) (begR R 0 7) cm bb a ∧ R' = tkF (begR R) cm bb a
theorem Tk_u {R R1 R2 : Rm} (h1 : Tk R R1) (h2 : Tk R R2) : R1 = R2 := by
  obtain ⟨cm, bb, a, h, e⟩ := h1
  obtain ⟨cm', bb', a', h', e'⟩ := h2
  obtain ⟨e1, e2, e3⟩ := Cho_u h h'
  rw [e, e', e1, e2, e3]
theorem Tk_R {R : Rm} {cm bb : Int} {a : Option Nat} (h6 : 1 ≤ R 0 6) (hr : rA R) (h : Cho (begR R) (hR (begR R)) (begR R 0 7) cm bb a) : Tk R (tkF (begR R) cm bb a) := by
  refine ⟨cm, bb, a, Cho_c (fun x hx => ?_) h, rfl⟩
  rw [begR_ord h6 hr] at hx
  have hp := ord_pw hr hx
  rw [hC_beg h6 hr hp, hC_beg2 h6 hr hp]
theorem p_owed {o : Nat} {V : Vt} {S : Me} {R : Rm} {n : Int} {Q : Int → Me → Prop} (hS : jS o S R) (hs : rS R) (hg : gB o S R n) (k : Q (owR R) S) : PT_X11_owedThisTick V o S Q := by
  have hg1 := hg.1
  have hg2 := hg.2.1
  have hs2 := hs.2.1
  unfold PT_X11_owedThisTick B_X11_owedThisTick_28
  rw [hS.1.2.1, hS.1.1, hS.1.2.2.2.1, tmod_e (by omega)]
  unfold owR at k
  refine ⟨fun z => by rw [if_neg (fun w => w.1 z)] at k; exact k, fun z => ⟨z, fun z2 => by rw [if_neg (fun w => z2 w.2)] at k; exact k, fun z2 => ⟨by unfold rng; omega, by rw [if_pos ⟨z, z2⟩] at k; exact k⟩⟩⟩
theorem gB_beg {o : Nat} {S S' : Me} {R : Rm} {n : Int} (hg : gB o S R n) (hlt : R 0 7 < R 0 6) (h9 : S'.1 (o + 28) 9 = S.1 (o + 28) 9) (h10 : S'.1 (o + 28) 10 = S.1 (o + 28) 10) : gB o S' (begR R) n := by
  have b0 : ∀ k, k ≠ 7 → k ≠ 14 → begR R 0 k = R 0 k := fun k h1 h2 => begR_o (by decide) (by omega)
  have e7 : begR R 0 7 = owR R := bgi_7
  obtain ⟨g6, g7, g8, g9, g10, g26, gq, g12⟩ := hg
  unfold gB
  rw [b0 6 (by decide) (by decide), b0 8 (by decide) (by decide), b0 9 (by decide) (by decide), b0 10 (by decide) (by decide), b0 26 (by decide) (by decide), e7, h9, h10, begR_a (a := 12) (by decide) (by decide)]
  refine ⟨g6, ?_, g8, g9, g10, g26, gq, g12⟩
  unfold owR
  split <;> omega
theorem tkF_6 {R : Rm} {cm bb : Int} {a : Option Nat} : tkF R cm bb a 0 6 = R 0 6 + 1 := by unfold tkF; rw [uR_e]
theorem p_passC {o : Nat} {V : Vt} {S : Me} {c : Nat → Nat} {R : Rm} {n : Int} {Q : Int → Me → Prop} (h : jT o V S c R n) (hn : n + 1 ≤ 300000)
    (k : ∀ S' R', Tk R R' → jT o V S' c R' (n + 1) → (∀ b, o + 42 ≤ b → b < o + 73 → S'.1 b = S.1 b) → Q (R 0 14 - R' 0 14) S') : PT_X11_passTick V o S Q := by
  obtain ⟨hI, hg, hlt⟩ := h
  have hI0 := hI
  obtain ⟨hV, hS, hP, hG, hL, hrL, hM, hrM, hA, hrA, hrO, hQ, hW, hH, hs⟩ := hI
  have h6 := hg.1.1
  unfold PT_X11_passTick
  refine p_owed hS hs hg (fun S8 e8 => ?_)
  have v6 : S8.1 o 6 = R 0 6 := by rw [e8, sI_ne (by omega), hS.1.1]
  have v14 : S8.1 (o + 28) 7 = R 0 14 := by rw [e8, sI_na (by omega), hQ.1.2.1]
  rw [v6, v14]
  clear v6 v14
  subst e8
  refine p_fences hI0 hg (fun S11 f11 I11 => ?_)
  have lo11 : ∀ b, b ≠ o → b ≠ o + 28 → b < o + 73 → S11.1 b = S.1 b := fun b h1 h2 h3 => funext fun j => by
    rw [f11.1 b j (by omega) (Or.inr (cA_lo hA hrA h3)), sI_na h1]
  have g11 : gB o S11 (begR R) n := gB_beg hg hlt (by rw [f11.1 _ 9 (by omega) (Or.inr (cA_lo hA hrA (by omega))), sI_na (by omega)]) (by rw [f11.1 _ 10 (by omega) (Or.inr (cA_lo hA hrA (by omega))), sI_na (by omega)])
  have w9 : S11.1 o 9 = begR R 0 7 := I11.2.1.1.2.2.2.1
  rw [w9]
  refine p_chooseC I11 g11 (fun cm bb a S13 hc f13 v14 v15 => ?_)
  have I13 := jI_fC I11 f13
  have hA11 := I11.2.2.2.2.2.2.2.2.1
  have hrA11 := I11.2.2.2.2.2.2.2.2.2.1
  have hs11 := I11.2.2.2.2.2.2.2.2.2.2.2.2.2.2
  have l13 : ∀ b, b ≠ o → b < o + 73 → S13.1 b = S11.1 b := fun b h1 h2 => fC_1 f13 h1 (cA_lo hA11 hrA11 h2)
  have g13 : gB o S13 (begR R) n := gB_c (l13 _ (by omega) (by omega)) g11
  have cf := Cho_f hrA11 hs11 hc
  have fr13 : ∀ b, o + 42 ≤ b → b < o + 73 → S13.1 b = S.1 b := fun b b1 b2 => by rw [l13 b (by omega) b2, lo11 b (by omega) (by omega) b2]
  have o6 : S13.1 o 6 = begR R 0 6 := I13.2.1.1.1
  have cb := cnt_b (wt R) (nA_ R)
  have h14 := hrA.2.1
  have hn4 : nA_ R ≤ 400 := by have := hrA.1; unfold nA_; omega
  -- the end of a tick
  have fin : ∀ S18 : Me, S18.1 o 6 = begR R 0 6 → jT o V (sI S18 o 6 (begR R 0 6 + 1)) c (tkF (begR R) cm bb a) (n + 1) → (∀ b, o + 42 ≤ b → b < o + 73 → S18.1 b = S.1 b) → B_X11_passTick_55 V o (R 0 14) S18 Q := by
    intro S18 e6 hT hfr
    unfold B_X11_passTick_55
    rw [e6]
    have g := g13.1
    refine ⟨by unfold rng; omega, fun S3 e3 => ?_⟩
    have hQ3 := hT.1.2.2.2.2.2.2.2.2.2.2.2.1.1.2.1
    have hr3 := hT.1.2.2.2.2.2.2.2.2.2.1
    have cb3 := cnt_b (wt (tkF (begR R) cm bb a)) (nA_ (tkF (begR R) cm bb a))
    have h143 := hr3.2.1
    rw [e3, hQ3]
    refine ⟨by unfold rng; omega, k _ _ ⟨cm, bb, a, hc, rfl⟩ hT (fun b b1 b2 => by rw [sI_na (by omega), hfr b b1 b2])⟩
  refine ⟨fun z => fin S13 o6 ?_ fr13, fun z => ?_⟩
  · have e : tkF (begR R) cm bb a = uR (begR R) 0 6 (begR R 0 6 + 1) := by unfold tkF; rw [if_pos (by omega)]
    rw [e]
    obtain ⟨g6, g7, g8, g9, g10, g26, gq, g12⟩ := g13
    have r0 : ∀ j, j ≠ 6 → uR (begR R) 0 6 (begR R 0 6 + 1) 0 j = begR R 0 j := fun j hj => by rw [uR_k (by omega)]
    refine ⟨jI_idle I13, ?_, ?_⟩
    · unfold gB
      rw [uR_e, r0 7 (by decide), r0 8 (by decide), r0 9 (by decide), r0 10 (by decide), r0 26 (by decide), sI_na (by omega), uR_a (by decide)]
      refine ⟨by omega, by omega, by omega, by omega, by omega, by omega, by omega, fun b hb => ?_⟩
      have := g12 b hb
      omega
    · rw [uR_e, r0 7 (by decide)]; omega
  · rw [v14, v15]
    refine p_carry I13 g13 hn cf ?_ (fun S' e6 hT hfr => fin S' e6 hT (fun b b1 b2 => by rw [hfr b (by omega) b2, fr13 b b1 b2]))
    rcases cf with ⟨e, -⟩ | ⟨e, -⟩ | ⟨e, -⟩ | ⟨x, -, -, e, -⟩
    · exact absurd e z
    · omega
    · omega
    · have := cmd_b (R := begR R) (x := x); omega
/-- what the reference's own steps rest on -/
theorem rZ_of {o : Nat} {V : Vt} {S : Me} {c : Nat → Nat} {R : Rm} {n : Int} (h : jI o V S c R) (hg : gB o S R n) : rZ R := by
  obtain ⟨hV, hS, hP, hG, hL, hrL, hM, hrM, hA, hrA, hrO, hQ, hW, hH, hs⟩ := h
  obtain ⟨g6, g7, g8, g9, g10, g26, gq, g12⟩ := hg
  have := hQ.1.2.2.2
  exact ⟨hrA, hs, hG, hrL, by omega, g7, g8, g9, g10, g26, by omega, g12⟩
/-- m ticks of the reference, each over what its steps rest on -/
def TkN : Nat → Rm → Rm → Prop
  | 0, R, R' => R' = R
  | m + 1, R, R' => ∃ R1, rZ R ∧ R 0 7 < R 0 6 ∧ Tk R R1 ∧ TkN m R1 R'
/-- at most m ticks while one waits; k of them -/
def DrN : Nat → Rm → Rm → Int → Prop
  | 0, R, R', k => R' = R ∧ k = 0
  | m + 1, R, R', k => (R 0 14 ≤ 0 ∧ R' = R ∧ k = 0) ∨ (0 < R 0 14 ∧ ∃ R1 k1, rZ R ∧ R 0 7 < R 0 6 ∧ Tk R R1 ∧ DrN m R1 R' k1 ∧ k = k1 + 1)
theorem p_runC {o : Nat} {V : Vt} {S : Me} {c : Nat → Nat} {R : Rm} {n x : Int} {Q : Int → Me → Prop} (h : jT o V S c R n) (hn : n + 500 ≤ 300000) (hx : 1 ≤ x ∧ x ≤ 500)
    (k : ∀ S' R', TkN x.toNat R R' → jT o V S' c R' (n + x) → (∀ b, o + 42 ≤ b → b < o + 73 → S'.1 b = S.1 b) → Q (R 0 14 - R' 0 14) S') : ∃ n9, B_X11_run_17 V o x Q n9 0 0 S := by
  have key : ∀ (m : Nat) (S1 : Me) (R1 : Rm) (y2 y3 : Int), y3 + (m : Int) = x → 0 ≤ y3 → jT o V S1 c R1 (n + y3) → y2 = R 0 14 - R1 0 14 → (∀ b, o + 42 ≤ b → b < o + 73 → S1.1 b = S.1 b) → (∀ R', TkN m R1 R' → TkN x.toNat R R') → B_X11_run_17 V o x Q (m + 1) y2 y3 S1 := by
    intro m
    induction m with
    | zero =>
      intro S1 R1 y2 y3 e h0 hT ey hfr hk
      unfold B_X11_run_17
      refine ⟨fun _ => ?_, fun z => by omega⟩
      rw [ey]
      refine k S1 R1 (hk R1 rfl) ?_ hfr
      rw [show n + x = n + y3 by omega]
      exact hT
    | succ m ih =>
      intro S1 R1 y2 y3 e h0 hT ey hfr hk
      unfold B_X11_run_17
      refine ⟨fun z => by omega, fun z => p_passC hT (by omega) (fun S2 R2 t2 hT2 hfr2 => ?_)⟩
      have c2 := hT2.1.2.2.2.2.2.2.2.2.2.1
      have c1 := hT.1.2.2.2.2.2.2.2.2.2.1
      have cb2 := cnt_b (wt R2) (nA_ R2)
      have cb1 := cnt_b (wt R1) (nA_ R1)
      have w2 := c2.2.1
      have w1 := c1.2.1
      have cb0 := cnt_b (wt R) (nA_ R)
      have w0 := h.1.2.2.2.2.2.2.2.2.2.1.2.1
      refine ⟨by unfold rng; omega, by unfold rng; omega, ih S2 R2 _ _ (by omega) (by omega) ?_ (by omega) (fun b b1 b2 => by rw [hfr2 b b1 b2, hfr b b1 b2]) (fun R' hR' => hk R' ⟨R2, rZ_of hT.1 hT.2.1, hT.2.2, t2, hR'⟩)⟩
      rw [show n + (y3 + 1) = n + y3 + 1 by omega]
      exact hT2
  refine ⟨x.toNat + 1, key x.toNat S R 0 0 (by omega) (by omega) ?_ (by omega) (fun _ _ _ => rfl) (fun _ h => h)⟩
  rw [Int.add_zero]
  exact h
theorem p_drainC {o : Nat} {V : Vt} {S : Me} {c : Nat → Nat} {R : Rm} {n x : Int} {Q : Int → Me → Prop} (h : jT o V S c R n) (hn : n + 500 ≤ 300000) (hx : 1 ≤ x ∧ x ≤ 500)
    (k : ∀ S' R' t, DrN x.toNat R R' t → 0 ≤ t → t ≤ x → jT o V S' c R' (n + t) → (∀ b, o + 42 ≤ b → b < o + 73 → S'.1 b = S.1 b) → Q t S') : ∃ n9, B_X11_drain_15 V o x Q n9 0 S := by
  have key : ∀ (m : Nat) (S1 : Me) (R1 : Rm) (y2 : Int), y2 + (m : Int) = x → 0 ≤ y2 → jT o V S1 c R1 (n + y2) → (∀ b, o + 42 ≤ b → b < o + 73 → S1.1 b = S.1 b) → (∀ R' t, DrN m R1 R' t → DrN x.toNat R R' (y2 + t)) → B_X11_drain_15 V o x Q (m + 1) y2 S1 := by
    intro m
    induction m with
    | zero =>
      intro S1 R1 y2 e h0 hT hfr hk
      unfold B_X11_drain_15
      refine ⟨fun _ => ?_, fun z => by omega⟩
      have := hk R1 0 ⟨rfl, rfl⟩
      rw [Int.add_zero] at this
      exact k S1 R1 y2 this h0 (by omega) hT hfr
    | succ m ih =>
      intro S1 R1 y2 e h0 hT hfr hk
      unfold B_X11_drain_15
      have hw := hT.1.2.2.2.2.2.2.2.2.2.2.2.1.1.2.1
      rw [hw]
      refine ⟨fun z => by omega, fun z => ⟨fun z2 => ?_, fun z2 => p_passC hT (by omega) (fun S2 R2 t2 hT2 hfr2 => ⟨by unfold rng; omega, ih S2 R2 _ (by omega) (by omega) ?_ (fun b b1 b2 => by rw [hfr2 b b1 b2, hfr b b1 b2]) (fun R' t hR' => ?_)⟩)⟩⟩
      · have := hk R1 0 (Or.inl ⟨z2, rfl, rfl⟩)
        rw [Int.add_zero] at this
        exact k S1 R1 y2 this h0 (by omega) hT hfr
      · rw [show n + (y2 + 1) = n + y2 + 1 by omega]
        exact hT2
      · rw [show y2 + 1 + t = y2 + (t + 1) by omega]
        exact hk R' (t + 1) (Or.inr ⟨by omega, R2, t, rZ_of hT.1 hT.2.1, hT.2.2, t2, hR', rfl⟩)
  refine ⟨x.toNat + 1, key x.toNat S R 0 (by omega) (by omega) ?_ (fun _ _ _ => rfl) (fun _ _ h => by rw [Int.zero_add]; exact h)⟩
  rw [Int.add_zero]
  exact h
theorem p_runR {V : Vt} {q : Nat} {S : Me} {R R' : Rm} {x y : Int} {Q : Int → Me → Prop} (hX : fX12 V q) (hx : 1 ≤ x ∧ x ≤ 500) (hR : rf q S = R) (hT : TkN x.toNat R R') (hb : rng (y - R' 0 14)) (k : ∀ S', fR q S S' → rf q S' = R' → Q (y - R' 0 14) S') : ∃ n9, B_X12_run_26 V q x Q n9 y 0 S := by
  have key : ∀ (m : Nat) (S1 : Me) (y3 : Int), y3 + (m : Int) = x → 0 ≤ y3 → fR q S S1 → TkN m (rf q S1) R' → B_X12_run_26 V q x Q (m + 1) y y3 S1 := by
    intro m
    induction m with
    | zero =>
      intro S1 y3 e h0 hf ht
      unfold B_X12_run_26
      have ht : R' = rf q S1 := ht
      rw [rf0 14 (by decide), ← ht]
      exact ⟨fun _ => ⟨hb, k S1 hf ht.symm⟩, fun z => by omega⟩
    | succ m ih =>
      intro S1 y3 e h0 hf ht
      obtain ⟨R1, hz, hlt, t1, ht⟩ := ht
      unfold B_X12_run_26
      refine ⟨fun z => by omega, fun z => p_tickR hX hz hlt (fun cm bb a S2 hc f2 e2 => ⟨by unfold rng; omega, ih S2 _ (by omega) (by omega) (fR_tr hf f2) ?_⟩)⟩
      rw [e2, ← Tk_u t1 (Tk_R hz.2.2.2.2.1.1 hz.1 hc)]
      exact ht
  exact ⟨x.toNat + 1, key x.toNat S 0 (by omega) (by omega) fR_rf (by rw [hR]; exact hT)⟩
theorem p_drainR {V : Vt} {q : Nat} {S : Me} {R R' : Rm} {x t : Int} {Q : Int → Me → Prop} (hX : fX12 V q) (hx : 1 ≤ x ∧ x ≤ 500) (hR : rf q S = R) (hT : DrN x.toNat R R' t) (k : ∀ S', fR q S S' → rf q S' = R' → Q t S') : ∃ n9, B_X12_drain_21 V q x Q n9 0 S := by
  have key : ∀ (m : Nat) (S1 : Me) (y2 t1 : Int), y2 + (m : Int) = x → 0 ≤ y2 → fR q S S1 → DrN m (rf q S1) R' t1 → y2 + t1 = t → B_X12_drain_21 V q x Q (m + 1) y2 S1 := by
    intro m
    induction m with
    | zero =>
      intro S1 y2 t1 e h0 hf ht et
      obtain ⟨h1, h2⟩ := ht
      unfold B_X12_drain_21
      refine ⟨fun _ => ?_, fun z => by omega⟩
      have : y2 = t := by omega
      subst this
      exact k S1 hf h1.symm
    | succ m ih =>
      intro S1 y2 t1 e h0 hf ht et
      unfold B_X12_drain_21
      rw [rf0 14 (by decide)]
      rcases ht with ⟨hw, h1, h2⟩ | ⟨hw, R1, k1, hz, hlt, tt, ht, ek⟩
      · refine ⟨fun z => by omega, fun z => ⟨fun _ => ?_, fun z2 => absurd hw z2⟩⟩
        have : y2 = t := by omega
        subst this
        exact k S1 hf h1.symm
      · refine ⟨fun z => by omega, fun z => ⟨fun z2 => by omega, fun _ => p_tickR hX hz hlt (fun cm bb a S2 hc f2 e2 => ⟨by unfold rng; omega, ih S2 _ k1 (by omega) (by omega) (fR_tr hf f2) ?_ (by omega)⟩)⟩⟩
        rw [e2, ← Tk_u tt (Tk_R hz.2.2.2.2.1.1 hz.1 hc)]
        exact ht
  exact ⟨x.toNat + 1, key x.toNat S 0 t (by omega) (by omega) fR_rf (by rw [hR]; exact hT) (by omega)⟩

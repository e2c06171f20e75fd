/-! ===== PURE PART: pairs: ask, write, mask, swap, fence ===== -/
theorem p_init0 {V : Vt} {z : Nat} {num who a t : Int} {S : Me} {Q : Me → Prop} (ha : a = -2 ∨ (0 ≤ a ∧ a < 1024)) (k : ∀ S' : Me, (∀ b, b ≠ z → S'.1 b = S.1 b ∧ S'.2 b = S.2 b) → (S'.1 z 0 = num ∧ S'.1 z 1 = who ∧ S'.1 z 2 = a ∧ S'.1 z 3 = bk a ∧ S'.1 z 4 = Int.tdiv a 64 ∧ S'.1 z 5 = t) → (S'.1 z 6 = 0 ∧ S'.1 z 7 = -2) → S'.2 z 8 = none → Q S') : PT_X0_init V z num who a t S Q := by
  intro S1 e1 S2 e2 S3 e3 S4 e4 S5 e5 S6 e6 S7 e7 S8 e8
  dsimp only [PT_X4_bankOf, PT_X4_rowOf]
  rw [bk_e ha]
  intro S11 e11 S14 e14 S15 e15
  refine k S15 (fun b hb => ⟨?_, ?_⟩) ⟨?_, ?_, ?_, ?_, ?_, ?_⟩ ⟨?_, ?_⟩ ?_
  · rw [e15, sI_na hb, e14, sI_na hb, e11, sI_na hb, e8, sI_na hb, e7, sI_na hb, e6, sI_na hb, e5, sI_na hb, e4, sP_1, e3, sP_1, e2, sI_na hb, e1, sI_na hb]
  · funext j
    rw [e15, sI_2, e14, sI_2, e11, sI_2, e8, sI_2, e7, sI_2, e6, sI_2, e5, sI_2, e4, sP_2, if_neg (fun w => hb w.1), e3, sP_2, if_neg (fun w => hb w.1), e2, sI_2, e1, sI_2]
  · rw [e15, sI_ne (by omega), e14, sI_ne (by omega), e11, sI_ne (by omega), e8, sI_ne (by omega), e7, sI_ne (by omega), e6, sI_eq]
  · rw [e15, sI_ne (by omega), e14, sI_ne (by omega), e11, sI_ne (by omega), e8, sI_ne (by omega), e7, sI_eq]
  · rw [e15, sI_ne (by omega), e14, sI_ne (by omega), e11, sI_ne (by omega), e8, sI_eq]
  · rw [e15, sI_ne (by omega), e14, sI_ne (by omega), e11, sI_eq]
  · rw [e15, sI_ne (by omega), e14, sI_eq]
  · rw [e15, sI_eq]
  · rw [e15, sI_ne (by omega), e14, sI_ne (by omega), e11, sI_ne (by omega), e8, sI_ne (by omega), e7, sI_ne (by omega), e6, sI_ne (by omega), e5, sI_ne (by omega), e4, sP_1, e3, sP_1, e2, sI_ne (by omega), e1, sI_eq]
  · rw [e15, sI_ne (by omega), e14, sI_ne (by omega), e11, sI_ne (by omega), e8, sI_ne (by omega), e7, sI_ne (by omega), e6, sI_ne (by omega), e5, sI_ne (by omega), e4, sP_1, e3, sP_1, e2, sI_eq]
  · rw [e15, sI_2, e14, sI_2, e11, sI_2, e8, sI_2, e7, sI_2, e6, sI_2, e5, sI_2, e4, sP_2, if_neg (by omega), e3, sP_2, if_pos ⟨rfl, rfl⟩]
theorem nV_t {V : Vt} {t L : Nat} : (nV V t L).2.1 V.1 = t := by unfold nV; simp
theorem nV_1 {V : Vt} {t L : Nat} : (nV V t L).1 = V.1 + 1 := rfl
theorem nV_l {V : Vt} {t L : Nat} : (nV V t L).2.2.1 V.1 = L := by unfold nV; simp
theorem nS_o {V : Vt} {S : Me} {b : Nat} (h : b ≠ V.1) : (nS V S).1 b = S.1 b ∧ (nS V S).2 b = S.2 b := by
  unfold nS
  exact ⟨funext fun j => if_neg h, funext fun j => if_neg h⟩
theorem pr_new {o : Nat} {V : Vt} {S S1 : Me} {c : Nat → Nat} {n kd who a v m : Int} {t : Nat} {Q : Int → Me → Prop} (hT : jT o V S c (rf (o + 42) S) n) (hAt : isA t) (hKt : kT t = kd)
    (hwho : 0 ≤ who ∧ who ≤ 3) (ha : (kd = 4 ∧ a = -2) ∨ (¬ kd = 4 ∧ 0 ≤ a ∧ a ≤ 1023)) (hv : 0 ≤ v ∧ v ≤ 255 ∧ 0 ≤ m ∧ m ≤ 255) (hm : kd = 1 ∨ kd = 3 → m = 255) (f : ∀ b, b < V.1 → S1.1 b = S.1 b ∧ S1.2 b = S.2 b)
    (z0 : S1.1 V.1 0 = rf (o + 42) S 0 13 ∧ S1.1 V.1 1 = who ∧ S1.1 V.1 2 = a ∧ S1.1 V.1 3 = bk a ∧ S1.1 V.1 4 = Int.tdiv a 64 ∧ S1.1 V.1 5 = rf (o + 42) S 0 6) (z6 : S1.1 V.1 6 = 0 ∧ S1.1 V.1 7 = -2) (z11 : kd = 1 ∨ kd = 2 ∨ kd = 3 → S1.1 V.1 11 = v) (z12 : kd = 2 → S1.1 V.1 12 = m) (z8 : S1.2 V.1 8 = none)
    (hk : ∀ (r : Int) (S2 : Me), (∀ S3 : Me, S3 = sI S2 (o + 42) 0 0 → PT_X12_added (nV V t 0) (o + 42) kd who a v m S3 (fun r2 S4 => r2 = r ∧ jJ o (nV V t 0) S4 n)) → Q r S2) : PT_X7_add (nV V t 0) (o + 28) (some V.1) S1 Q := by
  have h73 := hT.1.1.2.2.1
  have hrA := hT.1.2.2.2.2.2.2.2.2.2.1
  have ex := exV.nw V t 0
  have hX : fX12 (nV V t 0) (o + 42) := fX12_x ex hT.1.1.2.1
  have eR : rf (o + 42) S1 = rf (o + 42) S := rf_c (fun b b1 b2 => (f b (by omega)).1)
  refine p_addC hT ex rfl (by rw [nV_1]; omega) (by rw [nV_t]; exact hAt) (by rw [nV_t]; exact hKt) (by omega) (by omega) hv hm f z0 z6 z11 z12 z8 (fun h0 => hk _ _ (fun S3 e3 => ?_)) (fun h1 h2 S' c' hT' hfr => hk _ _ (fun S3 e3 => ?_))
  · obtain ⟨t1, t2⟩ := th_0 e3
    have hT1 := jT_V ex f hT
    refine p_addedR hX (by rw [t2, eR]; exact hrA) ?_ ?_
    · rw [t2, eR]
      exact fun _ => ⟨rfl, jJ_end hT1 t1 (by rw [t2, eR])⟩
    · rw [t2, eR]
      exact fun w1 w2 => absurd h0 (fun w => w.elim w1 w2)
  · obtain ⟨t1, t2⟩ := th_0 e3
    have eR' : rf (o + 42) S' = rf (o + 42) S := by rw [rf_fr hfr, eR]
    refine p_addedR hX (by rw [t2, eR']; exact hrA) ?_ ?_
    · rw [t2, eR']
      exact fun w => absurd w (fun w => w.elim h1 h2)
    · rw [t2, eR']
      exact fun _ _ S4 f4 e4 => ⟨rfl, jJ_end hT' (fR_tr t1 f4) e4⟩
theorem p_isRight {V : Vt} {x1 x2 x3 x4 : Int} {S : Me} {Q : Int → Me → Prop} (h1 : (0 ≤ x1 ∧ x1 ≤ 3) ∧ (0 ≤ x2 ∧ x2 ≤ 1023) ∧ (0 ≤ x3 ∧ x3 ≤ 255) ∧ (0 ≤ x4 ∧ x4 ≤ 255) → Q 1 S) (h0 : ¬ ((0 ≤ x1 ∧ x1 ≤ 3) ∧ (0 ≤ x2 ∧ x2 ≤ 1023) ∧ (0 ≤ x3 ∧ x3 ≤ 255) ∧ (0 ≤ x4 ∧ x4 ≤ 255)) → Q 0 S) : PT_X12_isRight V x1 x2 x3 x4 S Q :=
  ⟨fun a => h0 (fun w => isin_0.mp a w.1), fun a => ⟨fun b => h0 (fun w => isin_0.mp b w.2.1), fun b => ⟨fun c => h0 (fun w => isin_0.mp c w.2.2.1), fun c => ⟨fun d => h0 (fun w => isin_0.mp d w.2.2.2), fun d => h1 ⟨isin_1.mp a, isin_1.mp b, isin_1.mp c, isin_1.mp d⟩⟩⟩⟩⟩
theorem pr_ask {o : Nat} {V : Vt} {S : Me} {n x1 x2 : Int} (h : jJ o V S n) : PT_X11_ask V o x1 x2 S (fun r V1 S1 => PT_X12_ask V1 (o + 42) x1 x2 S1 (fun r2 S2 => r2 = r ∧ jJ o V1 S2 n)) := by
  obtain ⟨c, hT⟩ := jJ_st h
  have h73 := hT.1.1.2.2.1
  have hq6 := hT.1.2.2.2.2.2.2.2.2.2.2.2.1.1.1
  have ho6 := hT.1.2.1.1.1
  have bad : ¬ ((0 ≤ x1 ∧ x1 ≤ 3) ∧ (0 ≤ x2 ∧ x2 ≤ 1023)) → PT_X12_ask V (o + 42) x1 x2 S (fun r2 S2 => r2 = -1 ∧ jJ o V S2 n) := by
    intro hb S1 e1
    obtain ⟨t1, t2⟩ := th_0 e1
    exact p_isRight (fun w => absurd ⟨w.1, w.2.1⟩ hb) (fun _ => ⟨fun _ => ⟨rfl, jJ_end hT t1 t2⟩, fun e => absurd rfl e⟩)
  unfold PT_X11_ask
  refine p_asker (fun g1 => ⟨fun e => absurd e (by decide), fun _ => p_addr (fun g2 => ⟨fun _ U eU V' eV S8 e8 => ?_, fun e => absurd e (by decide)⟩) (fun g2 => ⟨fun e => absurd rfl e, fun _ => bad (fun w => g2 w.2)⟩)⟩) (fun g1 => ⟨fun _ => bad (fun w => g1 w.1), fun e => absurd rfl e⟩)
  subst eU eV e8
  rw [(nS_o (V := U) (S := S) (b := o + 28) (by omega)).1, (nS_o (V := U) (S := S) (b := o) (by omega)).1, hq6, ho6]
  unfold PT_X6_init
  refine p_init0 (Or.inr (by omega)) (fun S17 a1 a2 a3 a4 => ?_)
  refine pr_new (kd := 0) (who := x1) (a := x2) (v := 0) (m := 0) (t := 5) hT (by decide) rfl g1 (Or.inr ⟨by decide, g2⟩) (by omega) (by omega) (fun b b1 => by have w := nS_o (V := U) (S := S) (b := b) (by omega); have := a1 b (by omega); exact ⟨this.1.trans w.1, this.2.trans w.2⟩) a2 a3 (by omega) (by omega) a4 (fun r S2 hh S3 e3 => p_isRight (fun _ => ⟨fun e => absurd e (by decide), fun _ => hh S3 e3⟩) (fun w => absurd ⟨g1, g2, by decide, by decide⟩ w))
theorem pr_write {o : Nat} {V : Vt} {S : Me} {n x1 x2 x3 : Int} (h : jJ o V S n) : PT_X11_write V o x1 x2 x3 S (fun r V1 S1 => PT_X12_write V1 (o + 42) x1 x2 x3 S1 (fun r2 S2 => r2 = r ∧ jJ o V1 S2 n)) := by
  obtain ⟨c, hT⟩ := jJ_st h
  have h73 := hT.1.1.2.2.1
  have hq6 := hT.1.2.2.2.2.2.2.2.2.2.2.2.1.1.1
  have ho6 := hT.1.2.1.1.1
  have bad : ¬ ((0 ≤ x1 ∧ x1 ≤ 3) ∧ (0 ≤ x2 ∧ x2 ≤ 1023) ∧ (0 ≤ x3 ∧ x3 ≤ 255)) → PT_X12_write V (o + 42) x1 x2 x3 S (fun r2 S2 => r2 = -1 ∧ jJ o V S2 n) := by
    intro hb S1 e1
    obtain ⟨t1, t2⟩ := th_0 e1
    exact p_isRight (fun w => absurd ⟨w.1, w.2.1, w.2.2.1⟩ hb) (fun _ => ⟨fun _ => ⟨rfl, jJ_end hT t1 t2⟩, fun e => absurd rfl e⟩)
  unfold PT_X11_write
  refine p_asker (fun g1 => ⟨fun e => absurd e (by decide), fun _ => p_addr (fun g2 => ⟨fun e => absurd e (by decide), fun _ => p_octet (fun g3 => ⟨fun _ U eU V' eV S8 e8 => ?_, fun e => absurd e (by decide)⟩) (fun g3 => ⟨fun e => absurd rfl e, fun _ => bad (fun w => g3 w.2.2)⟩)⟩) (fun g2 => ⟨fun _ => bad (fun w => g2 w.2.1), fun e => absurd rfl e⟩)⟩) (fun g1 => ⟨fun _ => bad (fun w => g1 w.1), fun e => absurd rfl e⟩)
  subst eU eV e8
  rw [(nS_o (V := U) (S := S) (b := o + 28) (by omega)).1, (nS_o (V := U) (S := S) (b := o) (by omega)).1, hq6, ho6]
  unfold PT_X10_init
  refine p_init0 (Or.inr (by omega)) (fun S17 a1 a2 a3 a4 S18 e18 => ?_)
  refine pr_new (kd := 1) (who := x1) (a := x2) (v := x3) (m := 255) (t := 9) hT (by decide) rfl g1 (Or.inr ⟨by decide, g2⟩) (by omega) (by omega) (fun b b1 => by have w := nS_o (V := U) (S := S) (b := b) (by omega); have := a1 b (by omega); rw [e18, sI_na (by omega), sI_2]; exact ⟨this.1.trans w.1, this.2.trans w.2⟩) (by rw [e18, sI_ne (by omega), sI_ne (by omega), sI_ne (by omega), sI_ne (by omega), sI_ne (by omega), sI_ne (by omega)]; exact a2) (by rw [e18, sI_ne (by omega), sI_ne (by omega)]; exact a3) (fun _ => by rw [e18, sI_eq]) (by omega) (by rw [e18, sI_2]; exact a4) (fun r S2 hh S3 e3 => p_isRight (fun _ => ⟨fun e => absurd e (by decide), fun _ => hh S3 e3⟩) (fun w => absurd ⟨g1, g2, g3, by decide⟩ w))
theorem pr_mask {o : Nat} {V : Vt} {S : Me} {n x1 x2 x3 x4 : Int} (h : jJ o V S n) : PT_X11_mask V o x1 x2 x3 x4 S (fun r V1 S1 => PT_X12_mask V1 (o + 42) x1 x2 x3 x4 S1 (fun r2 S2 => r2 = r ∧ jJ o V1 S2 n)) := by
  obtain ⟨c, hT⟩ := jJ_st h
  have h73 := hT.1.1.2.2.1
  have hq6 := hT.1.2.2.2.2.2.2.2.2.2.2.2.1.1.1
  have ho6 := hT.1.2.1.1.1
  have bad : ¬ ((0 ≤ x1 ∧ x1 ≤ 3) ∧ (0 ≤ x2 ∧ x2 ≤ 1023) ∧ (0 ≤ x3 ∧ x3 ≤ 255) ∧ (0 ≤ x4 ∧ x4 ≤ 255)) → PT_X12_mask V (o + 42) x1 x2 x3 x4 S (fun r2 S2 => r2 = -1 ∧ jJ o V S2 n) := by
    intro hb S1 e1
    obtain ⟨t1, t2⟩ := th_0 e1
    exact p_isRight (fun w => absurd w hb) (fun _ => ⟨fun _ => ⟨rfl, jJ_end hT t1 t2⟩, fun e => absurd rfl e⟩)
  unfold PT_X11_mask
  refine p_asker (fun g1 => ⟨fun e => absurd e (by decide), fun _ => p_addr (fun g2 => ⟨fun e => absurd e (by decide), fun _ => p_octet (fun g3 => ⟨fun e => absurd e (by decide), fun _ => p_octet (fun g4 => ⟨fun _ U eU V' eV S8 e8 => ?_, fun e => absurd e (by decide)⟩) (fun g4 => ⟨fun e => absurd rfl e, fun _ => bad (fun w => g4 w.2.2.2)⟩)⟩) (fun g3 => ⟨fun _ => bad (fun w => g3 w.2.2.1), fun e => absurd rfl e⟩)⟩) (fun g2 => ⟨fun _ => bad (fun w => g2 w.2.1), fun e => absurd rfl e⟩)⟩) (fun g1 => ⟨fun _ => bad (fun w => g1 w.1), fun e => absurd rfl e⟩)
  subst eU eV e8
  rw [(nS_o (V := U) (S := S) (b := o + 28) (by omega)).1, (nS_o (V := U) (S := S) (b := o) (by omega)).1, hq6, ho6]
  unfold PT_X3_init PT_X10_init
  refine p_init0 (Or.inr (by omega)) (fun S17 a1 a2 a3 a4 S18 e18 S19 e19 => ?_)
  refine pr_new (kd := 2) (who := x1) (a := x2) (v := x3) (m := x4) (t := 2) hT (by decide) rfl g1 (Or.inr ⟨by decide, g2⟩) (by omega) (by omega) (fun b b1 => by have w := nS_o (V := U) (S := S) (b := b) (by omega); have := a1 b (by omega); rw [e19, sI_na (by omega), sI_2, e18, sI_na (by omega), sI_2]; exact ⟨this.1.trans w.1, this.2.trans w.2⟩) (by rw [e19, sI_ne (by omega), sI_ne (by omega), sI_ne (by omega), sI_ne (by omega), sI_ne (by omega), sI_ne (by omega), e18, sI_ne (by omega), sI_ne (by omega), sI_ne (by omega), sI_ne (by omega), sI_ne (by omega), sI_ne (by omega)]; exact a2) (by rw [e19, sI_ne (by omega), sI_ne (by omega), e18, sI_ne (by omega), sI_ne (by omega)]; exact a3) (fun _ => by rw [e19, sI_ne (by omega), e18, sI_eq]) (fun _ => by rw [e19, sI_eq]) (by rw [e19, sI_2, e18, sI_2]; exact a4) (fun r S2 hh S3 e3 => p_isRight (fun _ => ⟨fun e => absurd e (by decide), fun _ => hh S3 e3⟩) (fun w => absurd ⟨g1, g2, g3, g4⟩ w))
theorem pr_swap {o : Nat} {V : Vt} {S : Me} {n x1 x2 x3 : Int} (h : jJ o V S n) : PT_X11_swap V o x1 x2 x3 S (fun r V1 S1 => PT_X12_swap V1 (o + 42) x1 x2 x3 S1 (fun r2 S2 => r2 = r ∧ jJ o V1 S2 n)) := by
  obtain ⟨c, hT⟩ := jJ_st h
  have h73 := hT.1.1.2.2.1
  have hq6 := hT.1.2.2.2.2.2.2.2.2.2.2.2.1.1.1
  have ho6 := hT.1.2.1.1.1
  have bad : ¬ ((0 ≤ x1 ∧ x1 ≤ 3) ∧ (0 ≤ x2 ∧ x2 ≤ 1023) ∧ (0 ≤ x3 ∧ x3 ≤ 255)) → PT_X12_swap V (o + 42) x1 x2 x3 S (fun r2 S2 => r2 = -1 ∧ jJ o V S2 n) := by
    intro hb S1 e1
    obtain ⟨t1, t2⟩ := th_0 e1
    exact p_isRight (fun w => absurd ⟨w.1, w.2.1, w.2.2.1⟩ hb) (fun _ => ⟨fun _ => ⟨rfl, jJ_end hT t1 t2⟩, fun e => absurd rfl e⟩)
  unfold PT_X11_swap
  refine p_asker (fun g1 => ⟨fun e => absurd e (by decide), fun _ => p_addr (fun g2 => ⟨fun e => absurd e (by decide), fun _ => p_octet (fun g3 => ⟨fun _ U eU V' eV S8 e8 => ?_, fun e => absurd e (by decide)⟩) (fun g3 => ⟨fun e => absurd rfl e, fun _ => bad (fun w => g3 w.2.2)⟩)⟩) (fun g2 => ⟨fun _ => bad (fun w => g2 w.2.1), fun e => absurd rfl e⟩)⟩) (fun g1 => ⟨fun _ => bad (fun w => g1 w.1), fun e => absurd rfl e⟩)
  subst eU eV e8
  rw [(nS_o (V := U) (S := S) (b := o + 28) (by omega)).1, (nS_o (V := U) (S := S) (b := o) (by omega)).1, hq6, ho6]
  unfold PT_X9_init PT_X10_init
  refine p_init0 (Or.inr (by omega)) (fun S17 a1 a2 a3 a4 S18 e18 => ?_)
  refine pr_new (kd := 3) (who := x1) (a := x2) (v := x3) (m := 255) (t := 8) hT (by decide) rfl g1 (Or.inr ⟨by decide, g2⟩) (by omega) (by omega) (fun b b1 => by have w := nS_o (V := U) (S := S) (b := b) (by omega); have := a1 b (by omega); rw [e18, sI_na (by omega), sI_2]; exact ⟨this.1.trans w.1, this.2.trans w.2⟩) (by rw [e18, sI_ne (by omega), sI_ne (by omega), sI_ne (by omega), sI_ne (by omega), sI_ne (by omega), sI_ne (by omega)]; exact a2) (by rw [e18, sI_ne (by omega), sI_ne (by omega)]; exact a3) (fun _ => by rw [e18, sI_eq]) (by omega) (by rw [e18, sI_2]; exact a4) (fun r S2 hh S3 e3 => p_isRight (fun _ => ⟨fun e => absurd e (by decide), fun _ => hh S3 e3⟩) (fun w => absurd ⟨g1, g2, g3, by decide⟩ w))
theorem pr_fence {o : Nat} {V : Vt} {S : Me} {n x1 : Int} (h : jJ o V S n) : PT_X11_fence V o x1 S (fun r V1 S1 => PT_X12_fence V1 (o + 42) x1 S1 (fun r2 S2 => r2 = r ∧ jJ o V1 S2 n)) := by
  obtain ⟨c, hT⟩ := jJ_st h
  have h73 := hT.1.1.2.2.1
  have hq6 := hT.1.2.2.2.2.2.2.2.2.2.2.2.1.1.1
  have ho6 := hT.1.2.1.1.1
  unfold PT_X11_fence
  refine p_asker (fun g1 => ⟨fun _ U eU V' eV S8 e8 => ?_, fun e => absurd e (by decide)⟩) (fun g1 => ⟨fun e => absurd rfl e, fun _ S1 e1 => ?_⟩)
  · subst eU eV e8
    rw [(nS_o (V := U) (S := S) (b := o + 28) (by omega)).1, (nS_o (V := U) (S := S) (b := o) (by omega)).1, hq6, ho6]
    unfold PT_X2_init
    refine p_init0 (Or.inl rfl) (fun S17 a1 a2 a3 a4 => ?_)
    refine pr_new (kd := 4) (who := x1) (a := -2) (v := 0) (m := 0) (t := 1) hT (by decide) rfl g1 (Or.inl ⟨rfl, rfl⟩) (by omega) (by omega) (fun b b1 => by have w := nS_o (V := U) (S := S) (b := b) (by omega); have := a1 b (by omega); exact ⟨this.1.trans w.1, this.2.trans w.2⟩) a2 a3 (by omega) (by omega) a4 (fun r S2 hh S3 e3 => ⟨fun w => absurd g1 (isin_0.mp w), fun _ => hh S3 e3⟩)
  · obtain ⟨t1, t2⟩ := th_0 e1
    exact ⟨fun _ => ⟨rfl, jJ_end hT t1 t2⟩, fun w => absurd (isin_1.mp w) g1⟩

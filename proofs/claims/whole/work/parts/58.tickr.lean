/-! ===== PURE PART: the reference's tick ===== -/
/-- what a choice can be -/
def ChF (R : Rm) (w cm bb : Int) (a : Option Nat) : Prop := (cm = -2 ∧ bb = -2 ∧ a = none) ∨ (cm = 4 ∧ bb = -2 ∧ a = none ∧ 0 < w) ∨ (cm = 1 ∧ (0 ≤ bb ∧ bb < 4) ∧ a = none) ∨ ∃ x, a = some x ∧ pw R x ∧ cm = cmd R x ∧ bb = bk (R 6 x)
theorem Cho_f {R : Rm} {hp : Nat → Prop} {w cm bb : Int} {a : Option Nat} (hr : rA R) (hs : rS R) (h : Cho R hp w cm bb a) : ChF R w cm bb a := by
  rcases h with ⟨r, h, e⟩ | ⟨r, h⟩
  · have hw : 0 < w := by
      have := hs.2.2.1
      rcases r with r | r
      · omega
      · exact r.1
    rcases h with ⟨-, e1, e2⟩ | ⟨-, ⟨x, x1, -, -, e1, e2⟩ | ⟨-, e1, e2⟩⟩
    · exact Or.inr (Or.inl ⟨e1, e2, e, hw⟩)
    · exact Or.inr (Or.inr (Or.inl ⟨e1, by omega, e⟩))
    · exact Or.inl ⟨e1, e2, e⟩
  · rcases h with ⟨-, e1, e2, e3⟩ | ⟨x, p, e1, e2, e3⟩
    · exact Or.inl ⟨e1, e2, e3⟩
    · exact Or.inr (Or.inr (Or.inr ⟨x, e3, ord_pw hr (Pk_m _ _ _ p).1, e1, e2⟩))
/-- the parts of the reference's memory that its methods rest on -/
def rZ (R : Rm) : Prop := rA R ∧ rS R ∧ rG R ∧ rL R ∧ (1 ≤ R 0 6 ∧ R 0 6 ≤ 300000) ∧ (0 ≤ R 0 7 ∧ R 0 7 ≤ R 0 6) ∧ (0 ≤ R 0 8 ∧ R 0 8 < R 0 6) ∧ (0 ≤ R 0 9 ∧ R 0 9 < R 0 6) ∧ (0 ≤ R 0 10 ∧ R 0 10 < R 0 6) ∧ (0 ≤ R 0 26 ∧ R 0 26 < R 0 6) ∧ (0 ≤ R 0 25 ∧ R 0 25 ≤ R 0 6) ∧ ∀ a, a < 4 → 0 ≤ R 12 a ∧ R 12 a < R 0 6
theorem p_goR {V : Vt} {q : Nat} {S : Me} {Q : Me → Prop} {w cm bb : Int} {a : Option Nat} (hX : fX12 V q) (hz : rZ (rf q S)) (h40 : S.1 q 40 = cm) (h41 : S.1 q 41 = bb) (h42 : S.1 q 42 = aI_ a) (hc : ChF (rf q S) w cm bb a) (hcm : 0 ≤ cm) (k : ∀ S', fR q S S' → rf q S' = goR (rf q S) cm bb a → Q S') : PT_X12_go V q S Q := by
  obtain ⟨hA, hs, hG, hL, g6, g7, g8, g9, g10, g26, g25, g12⟩ := hz
  have hx : cm = 0 ∨ cm = 2 ∨ cm = 3 → aI_ a = ((a.getD 0 : Nat) : Int) ∧ a.getD 0 < 400 := by
    intro h
    rcases hc with ⟨e, -⟩ | ⟨e, -⟩ | ⟨e, -⟩ | ⟨x, e, hp, -⟩
    · omega
    · omega
    · omega
    · subst e
      exact ⟨rfl, (pw_r hA hp).1⟩
  unfold PT_X12_go
  refine p_write hX h40 h41 h42 hx ⟨hL.1, hL.2.1⟩ ⟨g26.1, by omega⟩ ⟨g9.1, by omega⟩ (fun S1 f1 e1 => ?_)
  have v : ∀ {a' k' : Nat}, (a' = 0 → k' ≠ 26 ∧ k' ≠ 9 ∧ k' ≠ 30) → (a' < 13 ∨ 21 < a') → rf q S1 a' k' = rf q S a' k' := fun h1 h2 => by rw [e1]; exact wrR_o h1 h2
  rw [f1.2 40 (by decide), h40, f1.2 41 (by decide), h41, f1.2 42 (by decide), h42]
  refine ⟨fun n4 => ⟨fun n0 => ⟨fun n1 => ?_, fun e_1 => ?_⟩, fun e0 => ?_⟩, fun e4 => ?_⟩
  · have hcx : ∃ x, a = some x ∧ pw (rf q S) x := by
      rcases hc with ⟨e, -⟩ | ⟨e, -⟩ | ⟨e, -⟩ | ⟨x, e, hp, -⟩
      · omega
      · exact absurd e n4
      · exact absurd e n1
      · exact ⟨x, e, hp⟩
    obtain ⟨x, ea, hp⟩ := hcx
    subst ea
    rw [rf0 25 (by decide), v (by omega) (by omega)]
    refine ⟨by unfold rng; omega, fun S10 e10 => ?_⟩
    have f10 : fK q S S10 := by rw [e10]; exact fK_0 f1 (by decide)
    have r10 : rf q S10 = uR (rf q S1) 0 25 (rf q S 0 25 + 1) := by rw [e10, rf_w0 (by unfold scr; omega)]
    have v10 : ∀ {a' k' : Nat}, (a' = 0 → k' ≠ 26 ∧ k' ≠ 9 ∧ k' ≠ 30 ∧ k' ≠ 25) → (a' < 13 ∨ 21 < a') → rf q S10 a' k' = rf q S a' k' := fun h1 h2 => by rw [r10, uR_1, if_neg (by omega), v (by omega) h2]
    have e42 : S10.1 q 42 = (x : Int) := by rw [f10.2 42 (by decide), h42]; rfl
    rw [e42]
    have hxr := pw_r hA hp
    have h5 := (hA.2.2 x hp.1.1).2.1
    have h14 := hA.2.1
    have hcn := cnt_b (wt (rf q S)) (nA_ (rf q S))
    have h12 := g12 (rf q S 5 x).toNat (by omega)
    refine p_access hxr.1 (by rw [v10 (by omega) (by omega)]; exact hp.2) (by rw [v10 (by omega) (by omega)]; exact hxr.2.2) (by rw [v10 (by omega) (by omega)]; exact h5) (by rw [v10 (by omega) (by omega)]; omega) (by rw [v10 (a' := 5) (by omega) (by omega), v10 (by omega) (by omega)]; omega) (fun S12 f12 e12 => ?_)
    have v13 : rf q S12 0 13 = rf q S 0 13 := by
      rw [e12]
      unfold acR
      rw [uR_1, if_neg (by omega), uR_1, if_neg (by omega), uR_1, if_neg (by omega)]
      split
      · split
        · rw [uR_1, if_neg (by omega)]; exact v10 (by omega) (by omega)
        · exact v10 (by omega) (by omega)
      · rw [uR_1, if_neg (by omega)]
        split
        · rw [uR_1, if_neg (by omega)]; exact v10 (by omega) (by omega)
        · exact v10 (by omega) (by omega)
    refine p_findOldest hX (by rw [v13]; exact hA.1) (fun S13 f13 e13 => k S13 (fR_tr (fR_tr f10.1 f12.1) ⟨f13.1, fun a' ha => funext fun k' => f13.2 a' k' (by omega)⟩) ?_)
    rw [e13, e12, r10, e1]
    unfold goR
    simp only
    rw [if_neg n4, if_neg n0, if_neg n1]
    rfl
  · have hb : 0 ≤ bb ∧ bb < 4 := by
      rcases hc with ⟨e, -⟩ | ⟨e, -⟩ | ⟨-, e, -⟩ | ⟨x, e, hp, -, e2⟩
      · omega
      · omega
      · exact e
      · rw [e2]; exact (pw_r hA hp).2.1
    refine ⟨hb, fun S16 e16 => k S16 (by rw [e16]; exact fR_s f1.1 (by decide)) ?_⟩
    rw [e16, rf_w (by unfold scr; omega), e1]
    unfold goR
    simp only
    rw [if_neg n4, if_neg n0, if_pos e_1]
  · have hb : 0 ≤ bb ∧ bb < 4 := by
      rcases hc with ⟨e, -⟩ | ⟨e, -⟩ | ⟨-, e, -⟩ | ⟨x, e, hp, -, e2⟩
      · omega
      · omega
      · exact e
      · rw [e2]; exact (pw_r hA hp).2.1
    obtain ⟨i1, i2⟩ := hx (Or.inl e0)
    rw [i1, tn, rfa 6 _ (by decide), v (by omega) (by omega)]
    refine ⟨by omega, hb, fun S24 e24 => ?_⟩
    have f24 : fK q S S24 := by rw [e24]; exact fK_s f1 (by decide) (by decide)
    have r24 : rf q S24 = uR (rf q S1) 2 bb.toNat (Int.tdiv (rf q S 6 (a.getD 0)) 64) := by rw [e24, rf_w (by unfold scr; omega)]
    have v24 : S24.1 q 10 = rf q S 0 10 := by rw [rf0 10 (by decide), r24, uR_1, if_neg (by omega), v (by omega) (by omega)]
    rw [v24]
    refine ⟨by unfold rng; omega, fun S27 e27 => k S27 (by rw [e27]; exact fR_s0 f24.1) ?_⟩
    rw [e27, rf_w0 (by unfold scr; omega), r24, e1]
    unfold goR
    simp only
    rw [if_neg n4, if_pos e0]
  · rw [rf0 7 (by decide), v (by omega) (by omega)]
    refine ⟨by unfold rng; omega, fun S30 e30 => ?_⟩
    have f30 : fK q S S30 := by rw [e30]; exact fK_0 f1 (by decide)
    have r30 : rf q S30 = uR (rf q S1) 0 7 (rf q S 0 7 - 1) := by rw [e30, rf_w0 (by unfold scr; omega)]
    have v30 : S30.1 q 8 = rf q S 0 8 := by rw [rf0 8 (by decide), r30, uR_1, if_neg (by omega), v (by omega) (by omega)]
    rw [v30]
    refine ⟨by unfold rng; omega, fun S33 e33 => k S33 (by rw [e33]; exact fR_s0 f30.1) ?_⟩
    rw [e33, rf_w0 (by unfold scr; omega), r30, e1]
    unfold goR
    simp only
    rw [if_pos e4]
def tkF (R : Rm) (cm bb : Int) (a : Option Nat) : Rm := uR (if cm < 0 then R else goR R cm bb a) 0 6 (R 0 6 + 1)
theorem goR_6 {R : Rm} {cm bb : Int} {a : Option Nat} : goR R cm bb a 0 6 = R 0 6 := by
  have w : ∀ ai pl, wrR R cm bb ai pl 0 6 = R 0 6 := fun ai pl => wrR_o (by omega) (by omega)
  unfold goR
  split
  · rw [uR_1, if_neg (by omega), uR_1, if_neg (by omega), w]
  · split
    · rw [uR_1, if_neg (by omega), uR_1, if_neg (by omega), w]
    · split
      · rw [uR_1, if_neg (by omega), w]
      · unfold fdR
        rw [uR_1, if_neg (by omega), uR_1, if_neg (by omega)]
        unfold acR
        rw [uR_1, if_neg (by omega), uR_1, if_neg (by omega), uR_1, if_neg (by omega)]
        split
        · split
          · rw [uR_1, if_neg (by omega), uR_1, if_neg (by omega), w]
          · rw [uR_1, if_neg (by omega), w]
        · rw [uR_1, if_neg (by omega)]
          split
          · rw [uR_1, if_neg (by omega), uR_1, if_neg (by omega), w]
          · rw [uR_1, if_neg (by omega), w]
/-- begR keeps what the methods rest on -/
theorem rZ_beg {R : Rm} (h : rZ R) (hlt : R 0 7 < R 0 6) : rZ (begR R) := by
  obtain ⟨hA, hs, hG, hL, g6, g7, g8, g9, g10, g26, g25, g12⟩ := h
  have b0 : ∀ k, k ≠ 7 → k ≠ 14 → begR R 0 k = R 0 k := fun k h1 h2 => begR_o (by decide) (by omega)
  have ba : ∀ a, a ≠ 10 → a ≠ 0 → begR R a = R a := fun a h1 h2 => begR_a h1 h2
  have e7 : begR R 0 7 = owR R := bgi_7
  refine ⟨rA_beg g6.1 hA, rS_R (ba 1 (by decide) (by decide)) (b0 2 (by decide) (by decide)) (b0 3 (by decide) (by decide)) (b0 4 (by decide) (by decide)) (b0 5 (by decide) (by decide)) hs, rG_R (b0 26 (by decide) (by decide)) (ba 13 (by decide) (by decide)) (ba 14 (by decide) (by decide)) (ba 15 (by decide) (by decide)) (b0 6 (by decide) (by decide)) hG, rL_R (b0 30 (by decide) (by decide)) (ba 17 (by decide) (by decide)) (ba 18 (by decide) (by decide)) (ba 19 (by decide) (by decide)) hL, ?_⟩
  rw [b0 6 (by decide) (by decide), b0 8 (by decide) (by decide), b0 9 (by decide) (by decide), b0 10 (by decide) (by decide), b0 26 (by decide) (by decide), b0 25 (by decide) (by decide), ba 12 (by decide) (by decide), e7]
  refine ⟨g6, ?_, g8, g9, g10, g26, g25, g12⟩
  unfold owR
  split <;> omega
theorem p_tickR {V : Vt} {q : Nat} {S : Me} {Q : Me → Prop} (hX : fX12 V q) (hz : rZ (rf q S)) (hlt : rf q S 0 7 < rf q S 0 6) (k : ∀ (cm bb : Int) (a : Option Nat) (S' : Me), Cho (begR (rf q S)) (hR (begR (rf q S))) (begR (rf q S) 0 7) cm bb a → fR q S S' → rf q S' = tkF (begR (rf q S)) cm bb a → Q S') : PT_X12_tick V q S Q := by
  have hz0 := hz
  obtain ⟨hA, hs, hG, hL, g6, g7, g8, g9, g10, g26, g25, g12⟩ := hz
  unfold PT_X12_tick
  refine p_beginR hX hA hs ⟨g6.1, by omega⟩ ⟨g7.1, by omega⟩ (fun S1 f1 e1 => ?_)
  have z1 := rZ_beg hz0 hlt
  rw [← e1] at z1
  obtain ⟨hA1, hs1, hG1, hL1, h6, h7, h8, h9, h10, h26, h25, h12⟩ := id z1
  refine p_findR hA1 hs1 (fun a ha => by have := h12 a ha; omega) hG1 ⟨h26.1, by omega⟩ (by omega) (fun cm bb a S2 hc f2 v40 v41 v42 => ?_)
  have e2 := fF_rf f2
  have cf := Cho_f hA1 hs1 hc
  have tick : ∀ S3 : Me, fR q S S3 → rf q S3 = (if cm < 0 then rf q S1 else goR (rf q S1) cm bb a) → B_X12_tick_19 V q S3 Q := by
    intro S3 f3 e3
    have v6 : S3.1 q 6 = rf q S1 0 6 := by
      rw [rf0 6 (by decide), e3]
      split
      · rfl
      · exact goR_6
    unfold B_X12_tick_19
    rw [v6]
    refine ⟨by unfold rng; omega, fun S4 e4 => k cm bb a S4 (by rw [← e1]; exact hc) (by rw [e4]; exact fR_s0 f3) ?_⟩
    rw [e4, rf_w0 (by unfold scr; omega), e3, ← e1]
    rfl
  have f12 := fR_tr (fG_fR f1) (fF_fR f2)
  rw [v40]
  refine ⟨fun z => tick S2 f12 (by rw [if_pos z, e2]), fun z => ?_⟩
  refine p_goR hX (by rw [e2]; exact z1) v40 v41 v42 (by rw [e2]; exact cf) (by omega) (fun S3 f3 e3 => tick S3 (fR_tr f12 f3) ?_)
  rw [e3, e2, if_neg z]

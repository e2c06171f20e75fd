/-! ===== PURE PART: parts of the invariant when a command goes ===== -/
theorem cA_R {o : Nat} {V : Vt} {S : Me} {c : Nat → Nat} {R R' : Rm} (h13 : R' 0 13 = R 0 13) (h4 : R' 4 = R 4) (h5 : R' 5 = R 5) (h6 : R' 6 = R 6) (h7 : R' 7 = R 7) (h8 : R' 8 = R 8) (h9 : R' 9 = R 9) (h10 : R' 10 = R 10) (h11 : R' 11 = R 11) (h : cA o V S c R) : cA o V S c R' := by
  unfold cA
  rw [h13, h4, h5, h6, h7, h8, h9, h10, h11]
  exact h
theorem cA_S {o : Nat} {V : Vt} {S S' : Me} {c : Nat → Nat} {R : Rm} (h : cA o V S c R) (h1 : ∀ i : Nat, (i : Int) < R 0 13 → ∀ k, k ≠ 10 → S'.1 (c i) k = S.1 (c i) k) (h2 : S'.2 (o + 28 + 1) = S.2 (o + 28 + 1)) : cA o V S' c R := by
  intro i hi
  have g := h i hi
  have e := h1 i hi
  rw [e 0 (by decide), e 1 (by decide), e 2 (by decide), e 3 (by decide), e 4 (by decide), e 5 (by decide), e 6 (by decide), e 7 (by decide), e 11 (by decide), e 12 (by decide), h2]
  exact g
theorem wt_R {R R' : Rm} (h13 : R' 0 13 = R 0 13) (h10 : R' 10 = R 10) : wt R' = wt R := by
  funext k
  unfold wt
  rw [h13, h10]
theorem pw_R {R R' : Rm} (h13 : R' 0 13 = R 0 13) (h10 : R' 10 = R 10) (h4 : R' 4 = R 4) : pw R' = pw R := by
  funext k
  unfold pw
  rw [wt_R h13 h10, h4]
theorem fw_R {R R' : Rm} (h13 : R' 0 13 = R 0 13) (h10 : R' 10 = R 10) (h4 : R' 4 = R 4) : fw R' = fw R := by
  funext k
  unfold fw
  rw [wt_R h13 h10, h4]
theorem nA_R {R R' : Rm} (h13 : R' 0 13 = R 0 13) : nA_ R' = nA_ R := by unfold nA_; rw [h13]
theorem rA_R {R R' : Rm} (h13 : R' 0 13 = R 0 13) (h14 : R' 0 14 = R 0 14) (h4 : R' 4 = R 4) (h5 : R' 5 = R 5) (h6 : R' 6 = R 6) (h7 : R' 7 = R 7) (h8 : R' 8 = R 8) (h9 : R' 9 = R 9) (h10 : R' 10 = R 10) (h11 : R' 11 = R 11) (ho : R 0 6 ≤ R' 0 6) (h : rA R) : rA R' := by
  unfold rA
  rw [h13, h14, h4, h5, h6, h7, h8, h9, h10, h11, nA_R h13, wt_R h13 h10]
  refine ⟨h.1, h.2.1, fun i hi => ?_⟩
  obtain ⟨a1, a2, a3, a4, a5, a6, a7, a8, a9⟩ := h.2.2 i hi
  exact ⟨a1, a2, a3, a4, a5, ⟨a6.1, by omega⟩, by omega, a8, a9⟩
theorem rO_R {R R' : Rm} (h13 : R' 0 13 = R 0 13) (h24 : R' 0 24 = R 0 24) (h25 : R' 0 25 = R 0 25) (h4 : R' 4 = R 4) (h10 : R' 10 = R 10) (h : rO R) : rO R' := by
  unfold rO
  rw [h24, h25, pw_R h13 h10 h4]
  exact h
theorem jQ_R {o : Nat} {S : Me} {c : Nat → Nat} {R R' : Rm} (h13 : R' 0 13 = R 0 13) (h14 : R' 0 14 = R 0 14) (h25 : R' 0 25 = R 0 25) (h4 : R' 4 = R 4) (h10 : R' 10 = R 10) (h12 : R' 12 = R 12) (h : jQ o S c R) : jQ o S c R' := by
  unfold jQ
  rw [h13, h14, h25, h12, nA_R h13, wt_R h13 h10, fw_R h13 h10 h4]
  exact h
theorem jQ_S {o : Nat} {S S' : Me} {c : Nat → Nat} {R : Rm} (h : jQ o S c R) (h1 : S'.1 (o + 28) = S.1 (o + 28)) (h3 : S'.1 (o + 28 + 3) = S.1 (o + 28 + 3)) (h2 : S'.2 (o + 28) = S.2 (o + 28)) (hc : ∀ i : Nat, (i : Int) < R 0 13 → S'.2 (c i) 8 = S.2 (c i) 8) : jQ o S' c R := by
  unfold jQ Cn
  rw [h1, h3, h2]
  refine ⟨h.1, h.2.1, h.2.2.1, fun i hi => ?_, h.2.2.2.2⟩
  rw [hc i hi.1]
  exact h.2.2.2.1 i hi
theorem jW_R {o : Nat} {S : Me} {R R' : Rm} (h13 : R' 0 13 = R 0 13) (h4 : R' 4 = R 4) (h5 : R' 5 = R 5) (h9 : R' 9 = R 9) (h10 : R' 10 = R 10) (h : jW o S R) : jW o S R' := by
  have e : wD R' = wD R := by
    funext a k
    unfold wD
    rw [h13, h5, h4, h10]
  unfold jW
  rw [e, h9, h10]
  exact h
theorem jH_S {o : Nat} {V : Vt} {S S' : Me} {c : Nat → Nat} {R : Rm} (h : jH o V S c R) (h2 : ∀ a, o + 33 ≤ a → a < o + 42 → S'.2 a = S.2 a) (h1 : ∀ a, o + 33 ≤ a → a < o + 42 → S'.1 a = S.1 a) (he : ∀ e, o + 73 ≤ e → V.2.1 e = 12 → S'.1 e = S.1 e) : jH o V S' c R := by
  obtain ⟨g1, g2, g3⟩ := h
  have ld : ∀ d, d < 8 → S'.2 (o + 34 + d) = S.2 (o + 34 + d) := fun d hd => h2 _ (by omega) (by omega)
  refine ⟨by rw [h2 (o + 33) (by omega) (by omega)]; exact g1, fun d hd => ?_, fun d d' e hd hd' => by rw [ld d hd, ld d' hd']; exact g3 d d' e hd hd'⟩
  have g := g2 d hd
  rw [ld d hd]
  rcases g with g | g | ⟨g1, g2, e, g3, g4, g5, g6, g7, g8, g9, g10⟩
  · exact Or.inl g
  · exact Or.inr (Or.inl g)
  · refine Or.inr (Or.inr ⟨g1, g2, e, g3, g4, g5, g6, g7, g8, by rw [h1 _ (by omega) (by omega)]; exact g9, fun i hi => ?_⟩)
    rw [he e g4 g6]
    exact g10 i hi
/-- one more command in the ring and in Past -/
theorem jP_push {o : Nat} {S S' : Me} {R R' : Rm} {cm bb : Int} (hP : jP o S R) (hG : rG R) (h26 : 0 ≤ R 0 26) (h10p : 0 ≤ R 0 10) (h6 : 1 ≤ R 0 6) (hr : rmT S (o + 2) cm bb (R 0 6) S') (hc : 0 ≤ cm ∧ cm < 5) (hb : cm < 4 → 0 ≤ bb ∧ bb < 4)
    (e26 : R' 0 26 = R 0 26 + 1) (e13 : ∀ k, R' 13 k = if k = (R 0 26 % 40).toNat then R 0 6 else R 13 k) (e14 : ∀ k, R' 14 k = if k = (R 0 26 % 40).toNat then cm else R 14 k) (e15 : ∀ k, R' 15 k = if k = (R 0 26 % 40).toNat then bb else R 15 k) (e6 : R' 0 6 = R 0 6 + 1) (e10 : R' 0 10 = if cm = 0 then R 0 10 + 1 else R 0 10) : jP o S' R' ∧ rG R' := by
  have n' : nR_ R' ≤ nR_ R + 1 ∧ 0 < nR_ R' ∧ nR_ R' ≤ 40 := by
    unfold nR_
    rw [e26]
    split <;> split <;> omega
  have x0 : eR R' 0 = (R 0 26 % 40).toNat := by
    unfold eR
    rw [e26]
    congr 2
    omega
  have xs : ∀ i, eR R' (i + 1) = eR R i := by
    intro i
    unfold eR
    rw [e26]
    congr 2
    omega
  have xn : ∀ i, i + 1 < nR_ R' → eR R i ≠ (R 0 26 % 40).toNat := by
    intro i hi
    unfold eR
    omega
  have t0 : tkR R' 0 = R 0 6 ∧ whR R' 0 = cm ∧ bkR R' 0 = bb := by
    unfold tkR whR bkR
    rw [x0, e13, e14, e15, if_pos rfl, if_pos rfl, if_pos rfl]
    exact ⟨rfl, rfl, rfl⟩
  have ts : ∀ i, i + 1 < nR_ R' → tkR R' (i + 1) = tkR R i ∧ whR R' (i + 1) = whR R i ∧ bkR R' (i + 1) = bkR R i := by
    intro i hi
    unfold tkR whR bkR
    rw [xs, e13, e14, e15, if_neg (xn i hi), if_neg (xn i hi), if_neg (xn i hi)]
    exact ⟨rfl, rfl, rfl⟩
  have ht : ∀ i, i < nR_ R → tkR R i ≤ R 0 6 := fun i hi => by have := (hG i hi).2.2.2; omega
  have hd : ∀ i, i < nR_ R → ¬ i + 1 < nR_ R' → tkR R i ≤ R' 0 6 - 31 := by
    intro i hi hn
    have := (hG i hi).2.2.2
    have hi40 : nR_ R ≤ 40 := by unfold nR_; split <;> omega
    have : 39 ≤ i := by
      unfold nR_ at hi hn
      rw [e26] at hn
      split at hi <;> split at hn <;> omega
    omega
  obtain ⟨p1, p2, p3, p4, p5⟩ := hP
  have hcf := rmT_cF hr hc hb
  have hf4 := rmT_f4 hr (by rw [p3]; exact h10p)
  refine ⟨⟨PI_push p1 hcf t0 ts n'.1 n'.2.1 (by omega) ht hd, PO_push p2 hf4.1 hf4.2 ⟨t0.1, t0.2.1⟩ (fun i hi => ⟨(ts i hi).1, (ts i hi).2.1⟩) n'.1 n'.2.1 (by omega) hd, ?_, fun r is b r0 r1 r2 s0 s1 hb' => ?_, fun j j0 j1 => ?_⟩, fun i hi => ?_⟩
  · rw [hr.2.2.1.1, e10, p3]
  · obtain ⟨c1, c2⟩ := hcf r is b r0 r1 r2 s0 s1 hb'
    by_cases q : hD r cm bb is b
    · rw [c1 q]; omega
    · rw [c2 q]; exact p4 r is b r0 r1 r2 s0 s1 hb'
  · by_cases q : cm = 0
    · obtain ⟨d1, d2⟩ := hf4.1 q
      by_cases z : j = 0
      · rw [z, d1]; omega
      · have := d2 (j - 1) (by omega) (by omega)
        rw [show j - 1 + 1 = j by omega] at this
        rw [this]
        exact p5 (j - 1) (by omega) (by omega)
    · rw [hf4.2 q j j0 j1]; exact p5 j j0 j1
  · cases i with
    | zero =>
      rw [t0.1, t0.2.1, t0.2.2, e6]
      exact ⟨hc, hb, h6, by simp⟩
    | succ i =>
      obtain ⟨z1, z2, z3⟩ := ts i hi
      have := hG i (by omega)
      rw [z1, z2, z3, e6]
      refine ⟨this.1, this.2.1, this.2.2.1, ?_⟩
      have := this.2.2.2
      omega
/-- what CommandLog.add does to a log at p -/
def lgT (S : Me) (p : Nat) (cm bb t pl ai : Int) (S' : Me) : Prop := S'.2 = S.2 ∧ (∀ a, a < p ∨ p + 6 < a → S'.1 a = S.1 a) ∧ (S'.1 p 7 = (if S.1 p 7 < 400 then S.1 p 7 + 1 else S.1 p 7) ∧ S'.1 p 8 = S.1 p 8) ∧
  (∀ k, S'.1 (p + 1) k = if S.1 p 7 < 400 ∧ k = (S.1 p 7).toNat then t else S.1 (p + 1) k) ∧ (∀ k, S'.1 (p + 2) k = if S.1 p 7 < 400 ∧ k = (S.1 p 7).toNat then t else S.1 (p + 2) k) ∧ (∀ k, S'.1 (p + 3) k = if S.1 p 7 < 400 ∧ k = (S.1 p 7).toNat then cm else S.1 (p + 3) k) ∧ (∀ k, S'.1 (p + 4) k = if S.1 p 7 < 400 ∧ k = (S.1 p 7).toNat then bb else S.1 (p + 4) k) ∧ (∀ k, S'.1 (p + 5) k = if S.1 p 7 < 400 ∧ k = (S.1 p 7).toNat then pl else S.1 (p + 5) k) ∧ (∀ k, S'.1 (p + 6) k = if S.1 p 7 < 400 ∧ k = (S.1 p 7).toNat then ai else S.1 (p + 6) k)
theorem p_logadd {V : Vt} {p : Nat} {S : Me} {Q : Me → Prop} {cm bb t pl ai : Int} {ar : Option Nat} (hX : fX1 V p) (hc : 0 ≤ cm ∧ cm < 5) (hl : 0 ≤ S.1 p 7 ∧ S.1 p 7 ≤ 400) (h0 : ar = none → pl = -2 ∧ ai = -2) (h1 : ∀ z, ar = some z → isA (V.2.1 z) ∧ p + 7 ≤ z ∧ S.1 z 0 = ai ∧ pl = (if cm = 0 then S.1 z 4 else if cm = 2 ∨ cm = 3 then Int.tmod (S.1 z 2) 16 else -2))
    (k : ∀ S', lgT S p cm bb t pl ai S' → Q S') : PT_X1_add V p cm bb ar t S Q := by
  unfold PT_X1_add
  refine ⟨fun z => ⟨by omega, fun S18 e18 => ?_⟩, fun z => k S ⟨rfl, fun _ _ => rfl, ⟨by rw [if_neg z], rfl⟩, fun k => by rw [if_neg (by omega)], fun k => by rw [if_neg (by omega)], fun k => by rw [if_neg (by omega)], fun k => by rw [if_neg (by omega)], fun k => by rw [if_neg (by omega)], fun k => by rw [if_neg (by omega)]⟩⟩
  have v18 : S18.1 p 7 = S.1 p 7 := by rw [e18, sI_na (by omega)]
  rw [v18]
  refine ⟨by omega, fun S21 e21 => ?_⟩
  have v21 : S21.1 p 7 = S.1 p 7 := by rw [e21, sI_na (by omega), v18]
  rw [v21]
  refine ⟨by omega, fun S24 e24 => ?_⟩
  have v24 : S24.1 p 7 = S.1 p 7 := by rw [e24, sI_na (by omega), v21]
  rw [v24]
  refine ⟨by omega, fun S27 e27 => ?_⟩
  have v27 : S27.1 p 7 = S.1 p 7 := by rw [e27, sI_na (by omega), v24]
  have z27 : ∀ a, p + 7 ≤ a → S27.1 a = S.1 a := fun a ha => by rw [e27, sI_na (by omega), e24, sI_na (by omega), e21, sI_na (by omega), e18, sI_na (by omega)]
  rw [v27]
  have fin : B_X1_add_75 V p cm bb ar t (some (p + 5)) (S.1 p 7) pl S27 Q := by
    refine ⟨p + 5, rfl, fX1_wheres_t hX, ⟨hl.1, by rw [fX1_wheres_n hX]; omega⟩, fun S9 e9 => ?_⟩
    have v9 : S9.1 p 7 = S.1 p 7 := by rw [e9, sI_na (by omega), v27]
    have f97 : B_X1_add_97 V p cm bb ar t (some (p + 6)) (S.1 p 7) ai S9 Q := by
      refine ⟨p + 6, rfl, fX1_asks_t hX, ⟨hl.1, by rw [fX1_asks_n hX]; omega⟩, fun S3 e3 => ?_⟩
      have v3 : S3.1 p 7 = S.1 p 7 := by rw [e3, sI_na (by omega), v9]
      rw [v3]
      refine ⟨by unfold rng; omega, fun S6 e6 => k S6 ?_⟩
      refine ⟨by rw [e6, sI_2, e3, sI_2, e9, sI_2, e27, sI_2, e24, sI_2, e21, sI_2, e18, sI_2], fun a ha => by rw [e6, sI_na (by omega), e3, sI_na (by omega), e9, sI_na (by omega), e27, sI_na (by omega), e24, sI_na (by omega), e21, sI_na (by omega), e18, sI_na (by omega)], ⟨by rw [e6, sI_eq, if_pos z], by rw [e6, sI_ne (by omega), e3, sI_na (by omega), e9, sI_na (by omega), e27, sI_na (by omega), e24, sI_na (by omega), e21, sI_na (by omega), e18, sI_na (by omega)]⟩, fun k => ?_, fun k => ?_, fun k => ?_, fun k => ?_, fun k => ?_, fun k => ?_⟩
      · rw [e6, sI_na (by omega), e3, sI_na (by omega), e9, sI_na (by omega), e27, sI_na (by omega), e24, sI_na (by omega), e21, sI_na (by omega), e18, sI_at]; simp [z]
      · rw [e6, sI_na (by omega), e3, sI_na (by omega), e9, sI_na (by omega), e27, sI_na (by omega), e24, sI_na (by omega), e21, sI_at, e18, sI_na (by omega)]; simp [z]
      · rw [e6, sI_na (by omega), e3, sI_na (by omega), e9, sI_na (by omega), e27, sI_na (by omega), e24, sI_at, e21, sI_na (by omega), e18, sI_na (by omega)]; simp [z]
      · rw [e6, sI_na (by omega), e3, sI_na (by omega), e9, sI_na (by omega), e27, sI_at, e24, sI_na (by omega), e21, sI_na (by omega), e18, sI_na (by omega)]; simp [z]
      · rw [e6, sI_na (by omega), e3, sI_na (by omega), e9, sI_at, e27, sI_na (by omega), e24, sI_na (by omega), e21, sI_na (by omega), e18, sI_na (by omega)]; simp [z]
      · rw [e6, sI_na (by omega), e3, sI_at, e9, sI_na (by omega), e27, sI_na (by omega), e24, sI_na (by omega), e21, sI_na (by omega), e18, sI_na (by omega)]; simp [z]
    rw [v9]
    refine ⟨fun hn => ?_, fun hn => ?_⟩
    · cases ar with
      | none => exact absurd rfl hn
      | some w =>
        obtain ⟨w1, w2, w3, -⟩ := h1 w rfl
        refine ⟨w, rfl, w1, ?_⟩
        rw [e9, sI_na (by omega), z27 w w2, w3, ← e9]
        exact f97
    · rw [(h0 hn).2] at f97
      exact f97
  refine ⟨fun hn => ?_, fun hn => ?_⟩
  · cases ar with
    | none => exact absurd rfl hn
    | some w =>
      obtain ⟨w1, w2, w3, w4⟩ := h1 w rfl
      unfold PT_X1_whereOf B_X1_whereOf_45 B_X1_whereOf_37
      refine ⟨fun e0 => ⟨w, rfl, w1, ?_⟩, fun e1 => ?_, fun e2 => ⟨w, rfl, w1, ?_⟩, fun e3 => ⟨w, rfl, w1, ?_⟩, fun e4 => ?_⟩
      · rw [z27 w w2]
        rw [if_pos e0] at w4
        rw [← w4]; exact fin
      · rw [if_neg (by omega), if_neg (by omega)] at w4
        rw [← w4]; exact fin
      · rw [z27 w w2]
        rw [if_neg (by omega), if_pos (Or.inl e2)] at w4
        rw [← w4]; exact fin
      · rw [z27 w w2]
        rw [if_neg (by omega), if_pos (Or.inr e3)] at w4
        rw [← w4]; exact fin
      · rw [if_neg (by omega), if_neg (by omega)] at w4
        rw [← w4]; exact fin
  · rw [(h0 hn).1] at fin
    exact fin

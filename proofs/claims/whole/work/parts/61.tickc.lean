/-! ===== PURE PART: the reference's memory behind a command, place by place; what every command does to the invariant ===== -/
theorem wrR_26 {R : Rm} {cm bb ai pl : Int} : wrR R cm bb ai pl 0 26 = R 0 26 + 1 := by
  unfold wrR rgR lgR
  split <;> simp [uR_1]
theorem wrR_9 {R : Rm} {cm bb ai pl : Int} : wrR R cm bb ai pl 0 9 = R 0 9 + 1 := by
  unfold wrR rgR lgR
  split <;> simp [uR_1]
theorem wrR_30 {R : Rm} {cm bb ai pl : Int} : wrR R cm bb ai pl 0 30 = if R 0 30 < 400 then R 0 30 + 1 else R 0 30 := by
  unfold wrR rgR lgR
  split <;> simp [uR_1]
theorem wrR_13 {R : Rm} {cm bb ai pl : Int} (k : Nat) : wrR R cm bb ai pl 13 k = if k = (R 0 26 % 40).toNat then R 0 6 else R 13 k := by
  unfold wrR rgR lgR
  split <;> simp [uR_1]
theorem wrR_14 {R : Rm} {cm bb ai pl : Int} (k : Nat) : wrR R cm bb ai pl 14 k = if k = (R 0 26 % 40).toNat then cm else R 14 k := by
  unfold wrR rgR lgR
  split <;> simp [uR_1]
theorem wrR_15 {R : Rm} {cm bb ai pl : Int} (k : Nat) : wrR R cm bb ai pl 15 k = if k = (R 0 26 % 40).toNat then bb else R 15 k := by
  unfold wrR rgR lgR
  split <;> simp [uR_1]
theorem wrR_16 {R : Rm} {cm bb ai pl : Int} (k : Nat) : wrR R cm bb ai pl 16 k = if R 0 30 < 400 ∧ k = (R 0 30).toNat then R 0 6 else R 16 k := by
  unfold wrR rgR lgR
  split <;> rename_i z <;> simp [uR_1, z]
theorem wrR_17 {R : Rm} {cm bb ai pl : Int} (k : Nat) : wrR R cm bb ai pl 17 k = if R 0 30 < 400 ∧ k = (R 0 30).toNat then R 0 6 else R 17 k := by
  unfold wrR rgR lgR
  split <;> rename_i z <;> simp [uR_1, z]
theorem wrR_18 {R : Rm} {cm bb ai pl : Int} (k : Nat) : wrR R cm bb ai pl 18 k = if R 0 30 < 400 ∧ k = (R 0 30).toNat then cm else R 18 k := by
  unfold wrR rgR lgR
  split <;> rename_i z <;> simp [uR_1, z]
theorem wrR_19 {R : Rm} {cm bb ai pl : Int} (k : Nat) : wrR R cm bb ai pl 19 k = if R 0 30 < 400 ∧ k = (R 0 30).toNat then bb else R 19 k := by
  unfold wrR rgR lgR
  split <;> rename_i z <;> simp [uR_1, z]
theorem wrR_20 {R : Rm} {cm bb ai pl : Int} (k : Nat) : wrR R cm bb ai pl 20 k = if R 0 30 < 400 ∧ k = (R 0 30).toNat then pl else R 20 k := by
  unfold wrR rgR lgR
  split <;> rename_i z <;> simp [uR_1, z]
theorem wrR_21 {R : Rm} {cm bb ai pl : Int} (k : Nat) : wrR R cm bb ai pl 21 k = if R 0 30 < 400 ∧ k = (R 0 30).toNat then ai else R 21 k := by
  unfold wrR rgR lgR
  split <;> rename_i z <;> simp [uR_1, z]
/-- R' is R1 but at the places of p -/
def eX (R1 R' : Rm) (p : Nat → Nat → Prop) : Prop := ∀ a k, ¬ p a k → R' a k = R1 a k
/-- what every command does: Past, ring, log, shelves, settings -/
theorem com_t {o : Nat} {V : Vt} {S S2 S5 S7 S' : Me} {c : Nat → Nat} {R R' : Rm} {cm bb ai pl n : Int} (hI : jI o V S c R) (hg : gB o S R n) (hc : 0 ≤ cm ∧ cm < 5) (hb : cm < 4 → 0 ≤ bb ∧ bb < 4) (h2 : rmT S (o + 2) cm bb (R 0 6) S2) (h5 : ∀ a, a ≠ o → S5.1 a = S2.1 a) (h7 : lgT S5 (o + 10) cm bb (R 0 6) pl ai S7)
    (hp : ∀ a, o + 2 ≤ a → a ≤ o + 9 → S'.1 a = S2.1 a) (hl : ∀ a, o + 10 ≤ a → a ≤ o + 16 → S'.1 a = S7.1 a) (hh2 : ∀ a, o + 33 ≤ a → a < o + 42 → S'.2 a = S.2 a) (hh1 : ∀ a, o + 33 ≤ a → a < o + 42 → S'.1 a = S.1 a) (he : ∀ e, o + 73 ≤ e → V.2.1 e = 12 → S'.1 e = S.1 e) (ht : ∀ r, r < 13 → S'.1 (o + 1) r = S.1 (o + 1) r)
    (hR : ∀ a, ¬ a = 0 → ¬ a = 2 → ¬ a = 3 → ¬ a = 10 → ¬ a = 11 → ¬ a = 12 → R' a = wrR R cm bb ai pl a) (hR0 : ∀ k, k = 2 ∨ k = 3 ∨ k = 4 ∨ k = 5 ∨ k = 13 ∨ k = 26 ∨ k = 30 ∨ k = 37 → R' 0 k = wrR R cm bb ai pl 0 k) (e6 : R' 0 6 = R 0 6 + 1) (e10 : R' 0 10 = if cm = 0 then R 0 10 + 1 else R 0 10) : jP o S' R' ∧ rG R' ∧ jL o S' R' ∧ rL R' ∧ jH o V S' c R' ∧ rS R' ∧ ∀ r, r < 13 → S'.1 (o + 1) r = R' 1 r := by
  obtain ⟨hV, hS, hP, hG, hL, hrL, hM, hrM, hA, hrA, hrO, hQ, hW, hH, hs⟩ := hI
  obtain ⟨g6, g7, g8, g9, g10, g26, gq, g12⟩ := hg
  have ra : ∀ a, ¬ a = 0 → ¬ a = 2 → ¬ a = 3 → ¬ a = 10 → ¬ a = 11 → ¬ a = 12 → (a < 13 ∨ 21 < a) → R' a = R a := fun a h1 h2 h3 h4 h5 h6 h7 => funext fun k => by rw [hR a h1 h2 h3 h4 h5 h6, wrR_o (by omega) h7]
  have r0 : ∀ k, k = 2 ∨ k = 3 ∨ k = 4 ∨ k = 5 ∨ k = 13 ∨ k = 37 → R' 0 k = R 0 k := fun k hk => by rw [hR0 k (by omega), wrR_o (by omega) (by omega)]
  have p1 := jP_push (S' := S2) hP hG g26.1 g10.1 g6.1 h2 hc hb (by rw [hR0 26 (by omega), wrR_26]) (fun k => by rw [hR 13 (by decide) (by decide) (by decide) (by decide) (by decide) (by decide), wrR_13]) (fun k => by rw [hR 14 (by decide) (by decide) (by decide) (by decide) (by decide) (by decide), wrR_14]) (fun k => by rw [hR 15 (by decide) (by decide) (by decide) (by decide) (by decide) (by decide), wrR_15]) e6 e10
  have l5 : ∀ a, o + 10 ≤ a → a ≤ o + 16 → S5.1 a = S.1 a := fun a a1 a2 => by rw [h5 a (by omega), h2.2.1 a (by omega)]
  obtain ⟨q1, q2, ⟨q3, q4⟩, w1, w2, w3, w4, w5, w6⟩ := h7
  have e30 : S5.1 (o + 10) 7 = R 0 30 := by rw [l5 _ (by omega) (by omega)]; exact hL.1
  rw [e30] at q3 w1 w2 w3 w4 w5 w6
  have rl : R' 0 30 = if R 0 30 < 400 then R 0 30 + 1 else R 0 30 := by rw [hR0 30 (by omega), wrR_30]
  refine ⟨jP_c (S := S2) (fun a a1 a2 => hp a a1 a2) p1.1, p1.2, ⟨?_, ?_, fun i hi => ?_⟩, ⟨?_, ?_, fun i hi => ?_⟩, ?_, rS_R (ra 1 (by decide) (by decide) (by decide) (by decide) (by decide) (by decide) (by decide)) (r0 2 (by omega)) (r0 3 (by omega)) (r0 4 (by omega)) (r0 5 (by omega)) hs, fun r hr => ?_⟩
  · rw [hl _ (by omega) (by omega), q3, rl]
  · rw [hl _ (by omega) (by omega), q4, l5 _ (by omega) (by omega), r0 37 (by omega)]; exact hL.2.1
  · rw [rl] at hi
    rw [hl (o + 10 + 1) (by omega) (by omega), hl (o + 10 + 2) (by omega) (by omega), hl (o + 10 + 3) (by omega) (by omega), hl (o + 10 + 4) (by omega) (by omega), hl (o + 10 + 5) (by omega) (by omega), hl (o + 10 + 6) (by omega) (by omega), w1, w2, w3, w4, w5, w6, hR 16 (by decide) (by decide) (by decide) (by decide) (by decide) (by decide), hR 17 (by decide) (by decide) (by decide) (by decide) (by decide) (by decide), hR 18 (by decide) (by decide) (by decide) (by decide) (by decide) (by decide), hR 19 (by decide) (by decide) (by decide) (by decide) (by decide) (by decide), hR 20 (by decide) (by decide) (by decide) (by decide) (by decide) (by decide), hR 21 (by decide) (by decide) (by decide) (by decide) (by decide) (by decide), wrR_16, wrR_17, wrR_18, wrR_19, wrR_20, wrR_21]
    rw [l5 (o + 10 + 1) (by omega) (by omega), l5 (o + 10 + 2) (by omega) (by omega), l5 (o + 10 + 3) (by omega) (by omega), l5 (o + 10 + 4) (by omega) (by omega), l5 (o + 10 + 5) (by omega) (by omega), l5 (o + 10 + 6) (by omega) (by omega)]
    by_cases z : R 0 30 < 400 ∧ i = (R 0 30).toNat
    · simp only [if_pos z, and_self]
    · simp only [if_neg z]
      refine hL.2.2 i ?_
      have := hrL.1
      split at hi <;> omega
  · rw [rl]; have := hrL.1; split <;> omega
  · rw [rl]; have := hrL.2.1; split <;> omega
  · rw [rl] at hi
    rw [hR 17 (by decide) (by decide) (by decide) (by decide) (by decide) (by decide), hR 18 (by decide) (by decide) (by decide) (by decide) (by decide) (by decide), hR 19 (by decide) (by decide) (by decide) (by decide) (by decide) (by decide), wrR_17, wrR_18, wrR_19]
    by_cases z : R 0 30 < 400 ∧ i = (R 0 30).toNat
    · simp only [if_pos z]
      exact ⟨hc, hb, g6.1, by omega⟩
    · simp only [if_neg z]
      refine hrL.2.2 i ?_
      have := hrL.1
      split at hi <;> omega
  · exact jH_R (r0 13 (by omega)) (ra 25 (by decide) (by decide) (by decide) (by decide) (by decide) (by decide) (by decide)) (ra 26 (by decide) (by decide) (by decide) (by decide) (by decide) (by decide) (by decide)) (ra 27 (by decide) (by decide) (by decide) (by decide) (by decide) (by decide) (by decide)) (ra 28 (by decide) (by decide) (by decide) (by decide) (by decide) (by decide) (by decide)) (jH_S hH hh2 hh1 he)
  · rw [ht r hr, ra 1 (by decide) (by decide) (by decide) (by decide) (by decide) (by decide) (by decide)]
    exact hS.2 r hr
/-- Asks and Queue are as they were -/
theorem com_q {o : Nat} {V : Vt} {S S' : Me} {c : Nat → Nat} {R R' : Rm} (hI : jI o V S c R) (h1 : ∀ i : Nat, (i : Int) < R 0 13 → S'.1 (c i) = S.1 (c i)) (h2 : S'.2 = S.2) (hq : ∀ a, o + 28 ≤ a → a ≤ o + 32 → S'.1 a = S.1 a) (ra : ∀ a, 4 ≤ a → a ≤ 12 → R' a = R a) (r0 : ∀ k, k = 13 ∨ k = 14 ∨ k = 24 ∨ k = 25 → R' 0 k = R 0 k) (h6 : R 0 6 ≤ R' 0 6) : cA o V S' c R' ∧ rA R' ∧ rO R' ∧ jQ o S' c R' ∧ jW o S' R' := by
  obtain ⟨hV, hS, hP, hG, hL, hrL, hM, hrM, hA, hrA, hrO, hQ, hW, hH, hs⟩ := hI
  have r4 := ra 4 (by decide) (by decide)
  have r5 := ra 5 (by decide) (by decide)
  have r6 := ra 6 (by decide) (by decide)
  have r7 := ra 7 (by decide) (by decide)
  have r8 := ra 8 (by decide) (by decide)
  have r9 := ra 9 (by decide) (by decide)
  have r10 := ra 10 (by decide) (by decide)
  have r11 := ra 11 (by decide) (by decide)
  have r12 := ra 12 (by decide) (by decide)
  refine ⟨cA_R (r0 13 (by omega)) r4 r5 r6 r7 r8 r9 r10 r11 (cA_S hA (fun i hi k _ => by rw [h1 i hi]) (by rw [h2])), rA_R (r0 13 (by omega)) (r0 14 (by omega)) r4 r5 r6 r7 r8 r9 r10 r11 h6 hrA, rO_R (r0 13 (by omega)) (r0 24 (by omega)) (r0 25 (by omega)) r4 r10 hrO, jQ_R (r0 13 (by omega)) (r0 14 (by omega)) (r0 25 (by omega)) r4 r10 r12 (jQ_S hQ (hq _ (by omega) (by omega)) (hq _ (by omega) (by omega)) (by rw [h2]) (fun i hi => by rw [h2])), jW_R (r0 13 (by omega)) r4 r5 r9 r10 ?_⟩
  unfold jW
  rw [hq (o + 28 + 4) (by omega) (by omega)]
  exact hW
theorem PI_lo {cf : Int → Int → Int → Int} {n : Nat} {tk wh bk : Nat → Int} {lo lo' : Int} (h : PI cf n tk wh bk lo) (hl : lo ≤ lo') : PI cf n tk wh bk lo' := fun r is b r0 r1 r2 s0 s1 hb => ⟨(h r is b r0 r1 r2 s0 s1 hb).1, (h r is b r0 r1 r2 s0 s1 hb).2.imp (fun z => by omega) id⟩
theorem PO_lo {f4 : Int → Int} {n : Nat} {tk wh : Nat → Int} {lo lo' : Int} (h : PO f4 n tk wh lo) (hl : lo ≤ lo') : PO f4 n tk wh lo' := fun j j0 j1 => ⟨(h j j0 j1).1, (h j j0 j1).2.imp (fun z => by omega) id⟩
/-- a tick without a command -/
theorem jI_idle {o : Nat} {V : Vt} {S : Me} {c : Nat → Nat} {R : Rm} (h : jI o V S c R) : jI o V (sI S o 6 (R 0 6 + 1)) c (uR R 0 6 (R 0 6 + 1)) := by
  have hI := h
  obtain ⟨hV, hS, hP, hG, hL, hrL, hM, hrM, hA, hrA, hrO, hQ, hW, hH, hs⟩ := h
  have ra : ∀ a, ¬ a = 0 → uR R 0 6 (R 0 6 + 1) a = R a := fun a ha => funext fun k => by rw [uR_1, if_neg (by omega)]
  have r0 : ∀ k, k ≠ 6 → uR R 0 6 (R 0 6 + 1) 0 k = R 0 k := fun k hk => by rw [uR_1, if_neg (by omega)]
  have e6 : uR R 0 6 (R 0 6 + 1) 0 6 = R 0 6 + 1 := by rw [uR_1, if_pos ⟨rfl, rfl⟩]
  have lo : ∀ a, a ≠ o → (sI S o 6 (R 0 6 + 1)).1 a = S.1 a := fun a ha => sI_na ha
  obtain ⟨c1, c2, c3, c4, c5⟩ := com_q (S' := sI S o 6 (R 0 6 + 1)) (R' := uR R 0 6 (R 0 6 + 1)) hI (fun i hi => lo _ (by have := (hA i hi).1.2.1; omega)) rfl (fun a a1 a2 => lo a (by omega)) (fun a a1 _ => ra a (by omega)) (fun k hk => r0 k (by omega)) (by rw [e6]; omega)
  have x0 : eR (uR R 0 6 (R 0 6 + 1)) = eR R := by funext i; unfold eR; rw [r0 26 (by decide)]
  have x1 : tkR (uR R 0 6 (R 0 6 + 1)) = tkR R := by funext i; unfold tkR; rw [ra 13 (by decide), x0]
  have x2 : whR (uR R 0 6 (R 0 6 + 1)) = whR R := by funext i; unfold whR; rw [ra 14 (by decide), x0]
  have x3 : bkR (uR R 0 6 (R 0 6 + 1)) = bkR R := by funext i; unfold bkR; rw [ra 15 (by decide), x0]
  have x4 : nR_ (uR R 0 6 (R 0 6 + 1)) = nR_ R := by unfold nR_; rw [r0 26 (by decide)]
  refine ⟨hV, ⟨⟨?_, ?_⟩, ?_⟩, ?_, ?_, jL_R (r0 30 (by decide)) (r0 37 (by decide)) (ra 16 (by decide)) (ra 17 (by decide)) (ra 18 (by decide)) (ra 19 (by decide)) (ra 20 (by decide)) (ra 21 (by decide)) ?_, rL_R (r0 30 (by decide)) (ra 17 (by decide)) (ra 18 (by decide)) (ra 19 (by decide)) hrL, jM_R (ra 3 (by decide)) (ra 2 (by decide)) ?_, rM_R (ra 3 (by decide)) (ra 2 (by decide)) hrM, c1, c2, c3, c4, c5, jH_R (r0 13 (by decide)) (ra 25 (by decide)) (ra 26 (by decide)) (ra 27 (by decide)) (ra 28 (by decide)) (jH_S hH (fun a a1 a2 => rfl) (fun a a1 a2 => lo a (by omega)) (fun e e1 e2 => lo e (by omega))), rS_R (ra 1 (by decide)) (r0 2 (by decide)) (r0 3 (by decide)) (r0 4 (by decide)) (r0 5 (by decide)) hs⟩
  · rw [sI_eq, e6]
  · rw [sI_ne (by omega), sI_ne (by omega), sI_ne (by omega), sI_ne (by omega), sI_ne (by omega), sI_ne (by omega), sI_ne (by omega), r0 2 (by decide), r0 3 (by decide), r0 7 (by decide), r0 4 (by decide), r0 5 (by decide), r0 9 (by decide), r0 8 (by decide)]
    exact hS.1.2
  · rw [lo _ (by omega), ra 1 (by decide)]; exact hS.2
  · unfold jP
    rw [x1, x2, x3, x4, e6, r0 10 (by decide)]
    have hc := jP_c (S' := sI S o 6 (R 0 6 + 1)) (fun a a1 a2 => lo a (by omega)) hP
    exact ⟨PI_lo hc.1 (by omega), PO_lo hc.2.1 (by omega), hc.2.2⟩
  · unfold rG
    rw [x1, x2, x3, x4, e6]
    intro i hi
    have := hG i hi
    exact ⟨this.1, this.2.1, this.2.2.1, by have := this.2.2.2; omega⟩
  · unfold jL
    rw [lo (o + 10) (by omega), lo (o + 10 + 1) (by omega), lo (o + 10 + 2) (by omega), lo (o + 10 + 3) (by omega), lo (o + 10 + 4) (by omega), lo (o + 10 + 5) (by omega), lo (o + 10 + 6) (by omega)]
    exact hL
  · unfold jM
    rw [lo (o + 25 + 1) (by omega), lo (o + 25 + 2) (by omega)]
    exact hM

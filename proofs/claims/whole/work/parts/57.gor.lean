/-! ===== PURE PART: the reference's go ===== -/
def plR (R : Rm) (cm : Int) (x : Nat) : Int := if cm = 0 then Int.tdiv (R 6 x) 64 else if cm = 2 ∨ cm = 3 then Int.tmod (R 6 x) 16 else -2
def lgR (R : Rm) (cm bb ai pl : Int) : Rm := uR (uR (uR (uR (uR (uR (uR R 16 (R 0 30).toNat (R 0 6)) 17 (R 0 30).toNat (R 0 6)) 18 (R 0 30).toNat cm) 19 (R 0 30).toNat bb) 21 (R 0 30).toNat ai) 20 (R 0 30).toNat pl) 0 30 (R 0 30 + 1)
def rgR (R : Rm) (cm bb : Int) : Rm := uR (uR (uR (uR (uR R 13 (R 0 26 % 40).toNat (R 0 6)) 14 (R 0 26 % 40).toNat cm) 15 (R 0 26 % 40).toNat bb) 0 26 (R 0 26 + 1)) 0 9 (R 0 9 + 1)
def wrR (R : Rm) (cm bb ai pl : Int) : Rm := rgR (if R 0 30 < 400 then lgR R cm bb ai pl else R) cm bb
/-- a method of the reference that leaves row0 and what was chosen -/
def fK (q : Nat) (S S' : Me) : Prop := fR q S S' ∧ ∀ k, 39 ≤ k → S'.1 q k = S.1 q k
theorem fK_s {q : Nat} {S S1 : Me} {a k : Nat} {x : Int} (h : fK q S S1) (ha : a < 30) (ha0 : 0 < a) : fK q S (sI S1 (q + a) k x) := ⟨fR_s h.1 ha, fun j hj => by rw [sI_na (by omega)]; exact h.2 j hj⟩
theorem fK_0 {q : Nat} {S S1 : Me} {k : Nat} {x : Int} (h : fK q S S1) (hk : k < 39) : fK q S (sI S1 q k x) := ⟨fR_s0 h.1, fun j hj => by rw [sI_ne (by omega)]; exact h.2 j hj⟩
theorem fK_r {q : Nat} {S : Me} : fK q S S := ⟨fR_rf, fun _ _ => rfl⟩
theorem fK_t {q : Nat} {S S1 S2 : Me} (h : fK q S S1) (h' : fK q S1 S2) : fK q S S2 := ⟨fR_tr h.1 h'.1, fun j hj => (h'.2 j hj).trans (h.2 j hj)⟩
theorem p_ring {V : Vt} {q : Nat} {S : Me} {Q : Me → Prop} {cm bb : Int} (h40 : S.1 q 40 = cm) (h41 : S.1 q 41 = bb) (hn : 0 ≤ rf q S 0 26 ∧ rf q S 0 26 ≤ 1000000) (h9 : 0 ≤ rf q S 0 9 ∧ rf q S 0 9 ≤ 1000000) (k : ∀ S', fK q S S' → rf q S' = rgR (rf q S) cm bb → Q S') : B_X12_write__149 V q S Q := by
  unfold B_X12_write__149
  rw [rf0 26 (by decide), rf0 6 (by decide), tmod_e hn.1]
  refine ⟨by omega, fun S4 e4 => ?_⟩
  have f4 : fK q S S4 := by rw [e4]; exact fK_s fK_r (by decide) (by decide)
  have r4 : rf q S4 = uR (rf q S) 13 (rf q S 0 26 % 40).toNat (rf q S 0 6) := by rw [e4, rf_w (by unfold scr; omega)]
  rw [f4.2 40 (by decide), h40]
  refine ⟨by omega, fun S7 e7 => ?_⟩
  have f7 : fK q S S7 := by rw [e7]; exact fK_s f4 (by decide) (by decide)
  have r7 : rf q S7 = uR (rf q S4) 14 (rf q S 0 26 % 40).toNat cm := by rw [e7, rf_w (by unfold scr; omega)]
  rw [f7.2 41 (by decide), h41]
  refine ⟨by omega, fun S10 e10 => ?_⟩
  have f10 : fK q S S10 := by rw [e10]; exact fK_s f7 (by decide) (by decide)
  have r10 : rf q S10 = uR (rf q S7) 15 (rf q S 0 26 % 40).toNat bb := by rw [e10, rf_w (by unfold scr; omega)]
  have v26 : S10.1 q 26 = rf q S 0 26 := by rw [rf0 26 (by decide), r10, r7, r4]; simp [uR_1]
  rw [v26]
  refine ⟨by unfold rng; omega, fun S13 e13 => ?_⟩
  have f13 : fK q S S13 := by rw [e13]; exact fK_0 f10 (by decide)
  have r13 : rf q S13 = uR (rf q S10) 0 26 (rf q S 0 26 + 1) := by rw [e13, rf_w0 (by unfold scr; omega)]
  have v9 : S13.1 q 9 = rf q S 0 9 := by rw [rf0 9 (by decide), r13, r10, r7, r4]; simp [uR_1]
  rw [v9]
  refine ⟨by unfold rng; omega, fun S16 e16 => k S16 ?_ ?_⟩
  · rw [e16]; exact fK_0 f13 (by decide)
  · rw [e16, rf_w0 (by unfold scr; omega), r13, r10, r7, r4]; rfl
theorem p_write {V : Vt} {q : Nat} {S : Me} {Q : Me → Prop} {cm bb ai : Int} {x : Nat} (hX : fX12 V q) (h40 : S.1 q 40 = cm) (h41 : S.1 q 41 = bb) (h42 : S.1 q 42 = ai) (hx : cm = 0 ∨ cm = 2 ∨ cm = 3 → ai = (x : Int) ∧ x < 400) (hl : 0 ≤ rf q S 0 30 ∧ rf q S 0 30 ≤ 400) (hn : 0 ≤ rf q S 0 26 ∧ rf q S 0 26 ≤ 1000000) (h9 : 0 ≤ rf q S 0 9 ∧ rf q S 0 9 ≤ 1000000) (k : ∀ S', fK q S S' → rf q S' = wrR (rf q S) cm bb ai (plR (rf q S) cm x) → Q S') : PT_X12_write_ V q S Q := by
  unfold PT_X12_write_
  rw [rf0 30 (by decide), rf0 6 (by decide)]
  refine ⟨fun z => p_ring h40 h41 hn h9 (fun S' f e => k S' f ?_), fun z => ⟨by omega, fun S31 e31 => ?_⟩⟩
  · unfold wrR
    rw [if_neg (by omega)]; exact e
  have f31 : fK q S S31 := by rw [e31]; exact fK_s fK_r (by decide) (by decide)
  have r31 : rf q S31 = uR (rf q S) 16 (rf q S 0 30).toNat (rf q S 0 6) := by rw [e31, rf_w (by unfold scr; omega)]
  have v31 : S31.1 q 30 = rf q S 0 30 := by rw [rf0 30 (by decide), r31]; simp [uR_1]
  have w31 : S31.1 q 6 = rf q S 0 6 := by rw [rf0 6 (by decide), r31]; simp [uR_1]
  rw [v31, w31]
  refine ⟨by omega, fun S35 e35 => ?_⟩
  have f35 : fK q S S35 := by rw [e35]; exact fK_s f31 (by decide) (by decide)
  have r35 : rf q S35 = uR (rf q S31) 17 (rf q S 0 30).toNat (rf q S 0 6) := by rw [e35, rf_w (by unfold scr; omega)]
  have v35 : S35.1 q 30 = rf q S 0 30 := by rw [rf0 30 (by decide), r35, r31]; simp [uR_1]
  rw [v35, f35.2 40 (by decide), h40]
  refine ⟨by omega, fun S39 e39 => ?_⟩
  have f39 : fK q S S39 := by rw [e39]; exact fK_s f35 (by decide) (by decide)
  have r39 : rf q S39 = uR (rf q S35) 18 (rf q S 0 30).toNat cm := by rw [e39, rf_w (by unfold scr; omega)]
  have v39 : S39.1 q 30 = rf q S 0 30 := by rw [rf0 30 (by decide), r39, r35, r31]; simp [uR_1]
  rw [v39, f39.2 41 (by decide), h41]
  refine ⟨by omega, fun S43 e43 => ?_⟩
  have f43 : fK q S S43 := by rw [e43]; exact fK_s f39 (by decide) (by decide)
  have r43 : rf q S43 = uR (rf q S39) 19 (rf q S 0 30).toNat bb := by rw [e43, rf_w (by unfold scr; omega)]
  have v43 : S43.1 q 30 = rf q S 0 30 := by rw [rf0 30 (by decide), r43, r39, r35, r31]; simp [uR_1]
  rw [v43, f43.2 42 (by decide), h42]
  refine ⟨by omega, fun S47 e47 => ?_⟩
  have f47 : fK q S S47 := by rw [e47]; exact fK_s f43 (by decide) (by decide)
  have r47 : rf q S47 = uR (rf q S43) 21 (rf q S 0 30).toNat ai := by rw [e47, rf_w (by unfold scr; omega)]
  have v47 : S47.1 q 30 = rf q S 0 30 := by rw [rf0 30 (by decide), r47, r43, r39, r35, r31]; simp [uR_1]
  have v6 : ∀ y, rf q S47 6 y = rf q S 6 y := fun y => by rw [r47, r43, r39, r35, r31]; simp [uR_1]
  rw [v47, f47.2 40 (by decide), h40, f47.2 42 (by decide), h42]
  have fin : ∀ pl : Int, pl = plR (rf q S) cm x → B_X12_write__138 V q (some (q + 20)) (rf q S 0 30) pl S47 Q := by
    intro pl hp
    refine ⟨q + 20, rfl, fX12_logPlace_t hX, ⟨by omega, by rw [fX12_logPlace_n hX]; omega⟩, fun S19 e19 => ?_⟩
    have f19 : fK q S S19 := by rw [e19]; exact fK_s f47 (by decide) (by decide)
    have r19 : rf q S19 = uR (rf q S47) 20 (rf q S 0 30).toNat pl := by rw [e19, rf_w (by unfold scr; omega)]
    have v19 : S19.1 q 30 = rf q S 0 30 := by rw [rf0 30 (by decide), r19, r47, r43, r39, r35, r31]; simp [uR_1]
    rw [v19]
    refine ⟨by unfold rng; omega, fun S22 e22 => ?_⟩
    have f22 : fK q S S22 := by rw [e22]; exact fK_0 f19 (by decide)
    have r22 : rf q S22 = lgR (rf q S) cm bb ai (plR (rf q S) cm x) := by rw [e22, rf_w0 (by unfold scr; omega), r19, r47, r43, r39, r35, r31, hp]; rfl
    have t26 : rf q S22 0 26 = rf q S 0 26 := by rw [r22]; simp [lgR, uR_1]
    have t9 : rf q S22 0 9 = rf q S 0 9 := by rw [r22]; simp [lgR, uR_1]
    refine p_ring (cm := cm) (bb := bb) (by rw [f22.2 40 (by decide)]; exact h40) (by rw [f22.2 41 (by decide)]; exact h41) (by rw [t26]; exact hn) (by rw [t9]; exact h9) (fun S' f e => k S' (fK_t f22 f) ?_)
    rw [e, r22]
    unfold wrR
    rw [if_pos (by omega)]
  have b121 : cm = 2 ∨ cm = 3 → B_X12_write__121 V q (some (q + 20)) (rf q S 0 30) S47 Q := by
    intro h23
    obtain ⟨e1, e2⟩ := hx (Or.inr h23)
    unfold B_X12_write__121
    rw [f47.2 42 (by decide), h42, e1, tn, rfa 6 x (by decide), v6]
    refine ⟨by omega, fin _ ?_⟩
    unfold plR
    rw [if_neg (by omega), if_pos h23]
  refine ⟨fun n0 => ⟨fun e2 => b121 (Or.inl e2), fun n2 => ⟨fun n3 => fin _ ?_, fun e3 => b121 (Or.inr e3)⟩⟩, fun e0 => ?_⟩
  · unfold plR
    rw [if_neg n0, if_neg (by omega)]
  · obtain ⟨e1, e2⟩ := hx (Or.inl e0)
    rw [e1, tn, rfa 6 x (by decide), v6]
    refine ⟨by omega, fin _ ?_⟩
    unfold plR
    rw [if_pos e0]
/-- the reference's memory behind an Ask's own access and end -/
def acR (R : Rm) (x : Nat) : Rm :=
  let old := R 3 (R 6 x).toNat
  let R3 := if R 4 x = 0 ∨ R 4 x = 3 then uR R 11 x old else R
  let R4 := if R 4 x = 0 then R3 else uR R3 3 (R 6 x).toNat (bOr (bAnd old (bXor (R 8 x) (-1))) (bAnd (R 7 x) (R 8 x)))
  uR (uR (uR R4 10 x (R 0 6)) 0 14 (R 0 14 - 1)) 12 (R 5 x).toNat (R 12 (R 5 x).toNat + 1)
/-- the reference's memory behind a command -/
def goR (R : Rm) (cm bb : Int) (a : Option Nat) : Rm :=
  let R1 := wrR R cm bb (aI_ a) (plR R cm (a.getD 0))
  if cm = 4 then uR (uR R1 0 7 (R 0 7 - 1)) 0 8 (R 0 8 + 1)
  else if cm = 0 then uR (uR R1 2 bb.toNat (Int.tdiv (R 6 (a.getD 0)) 64)) 0 10 (R 0 10 + 1)
  else if cm = 1 then uR R1 2 bb.toNat (-2)
  else fdR (acR (uR R1 0 25 (R 0 25 + 1)) (a.getD 0))
theorem wrR_o {R : Rm} {cm bb ai pl : Int} {a k : Nat} (h : a = 0 → k ≠ 26 ∧ k ≠ 9 ∧ k ≠ 30) (h1 : a < 13 ∨ 21 < a) : wrR R cm bb ai pl a k = R a k := by
  unfold wrR rgR
  by_cases z : R 0 30 < 400
  · rw [if_pos z]
    unfold lgR
    rw [uR_1, if_neg (by omega), uR_1, if_neg (by omega), uR_1, if_neg (by omega), uR_1, if_neg (by omega), uR_1, if_neg (by omega), uR_1, if_neg (by omega), uR_1, if_neg (by omega), uR_1, if_neg (by omega), uR_1, if_neg (by omega), uR_1, if_neg (by omega), uR_1, if_neg (by omega), uR_1, if_neg (by omega)]
  · rw [if_neg z]
    rw [uR_1, if_neg (by omega), uR_1, if_neg (by omega), uR_1, if_neg (by omega), uR_1, if_neg (by omega), uR_1, if_neg (by omega)]
theorem p_access {V : Vt} {q : Nat} {S : Me} {Q : Me → Prop} {x : Nat} (hx : x < 400) (hp : ¬ rf q S 4 x = 4) (ha : 0 ≤ rf q S 6 x ∧ rf q S 6 x < 1024) (h5 : 0 ≤ rf q S 5 x ∧ rf q S 5 x < 4) (h14 : 0 ≤ rf q S 0 14 ∧ rf q S 0 14 ≤ 400) (h12 : 0 ≤ rf q S 12 (rf q S 5 x).toNat ∧ rf q S 12 (rf q S 5 x).toNat ≤ 1000000) (k : ∀ S', fK q S S' → rf q S' = acR (rf q S) x → Q S') : PT_X12_access V q (x : Int) S Q := by
  unfold PT_X12_access
  rw [tn, rfa 6 x (by decide), rfa 4 x (by decide), rfa 3 _ (by decide)]
  -- the end
  have fin : ∀ S1 : Me, fK q S S1 → (∀ a k, ¬ a = 3 → ¬ a = 11 → rf q S1 a k = rf q S a k) → (∀ S', fK q S S' → rf q S' = uR (uR (uR (rf q S1) 10 x (rf q S 0 6)) 0 14 (rf q S 0 14 - 1)) 12 (rf q S 5 x).toNat (rf q S 12 (rf q S 5 x).toNat + 1) → Q S') → B_X12_access_79 V q (x : Int) S1 Q := by
    intro S1 f1 r1 kk
    unfold B_X12_access_79 PT_X12_finish
    rw [tn, rf0 6 (by decide), r1 _ _ (by decide) (by decide)]
    refine ⟨by omega, fun S3 e3 => ?_⟩
    have f3 : fK q S S3 := by rw [e3]; exact fK_s f1 (by decide) (by decide)
    have r3 : rf q S3 = uR (rf q S1) 10 x (rf q S 0 6) := by rw [e3, rf_w (by unfold scr; omega)]
    have v14 : S3.1 q 14 = rf q S 0 14 := by rw [rf0 14 (by decide), r3, uR_1, if_neg (by omega), r1 _ _ (by decide) (by decide)]
    rw [v14]
    refine ⟨by unfold rng; omega, fun S6 e6 => ⟨by omega, ?_⟩⟩
    have f6 : fK q S S6 := by rw [e6]; exact fK_0 f3 (by decide)
    have r6 : rf q S6 = uR (rf q S3) 0 14 (rf q S 0 14 - 1) := by rw [e6, rf_w0 (by unfold scr; omega)]
    have v4 : rf q S6 4 x = rf q S 4 x := by rw [r6, r3, uR_1, if_neg (by omega), uR_1, if_neg (by omega), r1 _ _ (by decide) (by decide)]
    have v5 : rf q S6 5 x = rf q S 5 x := by rw [r6, r3, uR_1, if_neg (by omega), uR_1, if_neg (by omega), r1 _ _ (by decide) (by decide)]
    have v12 : ∀ y, rf q S6 12 y = rf q S 12 y := fun y => by rw [r6, r3, uR_1, if_neg (by omega), uR_1, if_neg (by omega), r1 _ _ (by decide) (by decide)]
    rw [rfa 4 x (by decide), v4]
    refine ⟨fun z => absurd z hp, fun _ => ⟨by omega, ?_⟩⟩
    rw [rfa 5 x (by decide), v5, rfa 12 _ (by decide), v12]
    refine ⟨h5, by unfold rng; omega, h5, fun S16 e16 => kk S16 (by rw [e16]; exact fK_s f6 (by decide) (by decide)) ?_⟩
    rw [e16, rf_w (by unfold scr; omega), r6, r3]
  have b40 : ∀ S1 : Me, fK q S S1 → rf q S1 = (if rf q S 4 x = 0 ∨ rf q S 4 x = 3 then uR (rf q S) 11 x (rf q S 3 (rf q S 6 x).toNat) else rf q S) → B_X12_access_40 V q (x : Int) (rf q S 6 x) (rf q S 3 (rf q S 6 x).toNat) S1 Q := by
    intro S1 f1 e1
    have r1 : ∀ a k, ¬ a = 11 → rf q S1 a k = rf q S a k := by
      intro a k ha
      rw [e1]
      split
      · rw [uR_1, if_neg (by omega)]
      · rfl
    unfold B_X12_access_40
    rw [tn, rfa 4 x (by decide), r1 _ _ (by decide)]
    refine ⟨by omega, fun z => fin S1 f1 (fun a k _ h => r1 a k h) (fun S' f e => k S' f ?_), fun z => ⟨by omega, by omega, by omega, ha, ?_⟩⟩
    · rw [e, e1]
      unfold acR
      simp only [if_pos z]
    · rw [rfa 8 x (by decide), rfa 7 x (by decide), r1 _ _ (by decide), r1 _ _ (by decide)]
      intro S12 e12
      have r12 : rf q S12 = uR (rf q S1) 3 (rf q S 6 x).toNat (bOr (bAnd (rf q S 3 (rf q S 6 x).toNat) (bXor (rf q S 8 x) (-1))) (bAnd (rf q S 7 x) (rf q S 8 x))) := by rw [e12, rf_w (by unfold scr; omega)]
      refine fin S12 (by rw [e12]; exact fK_s f1 (by decide) (by decide)) (fun a k h1 h2 => by rw [r12, uR_1, if_neg (by omega), r1 a k h2]) (fun S' f e => k S' f ?_)
      rw [e, r12, e1]
      unfold acR
      simp only [if_neg z]
  have b33 : (rf q S 4 x = 0 ∨ rf q S 4 x = 3) → B_X12_access_33 V q (x : Int) (rf q S 6 x) (rf q S 3 (rf q S 6 x).toNat) S Q := by
    intro z
    unfold B_X12_access_33
    rw [tn]
    refine ⟨by omega, fun S14 e14 => b40 S14 (by rw [e14]; exact fK_s fK_r (by decide) (by decide)) ?_⟩
    rw [e14, rf_w (by unfold scr; omega), if_pos z]
  refine ⟨by omega, ha, by omega, fun z => b33 (Or.inl z), fun z => ⟨by omega, fun z3 => b40 S fK_r (by rw [if_neg (by omega)]), fun z3 => b33 (Or.inr z3)⟩⟩

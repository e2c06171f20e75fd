/-! ===== PURE PART: Past.remember ===== -/
theorem sI_ne {S : Me} {a k : Nat} {x : Int} {b j : Nat} (h : b ≠ a ∨ j ≠ k) : (sI S a k x).1 b j = S.1 b j := by
  rw [sI_1, if_neg (by omega)]
theorem sI_eq {S : Me} {a k : Nat} {x : Int} : (sI S a k x).1 a k = x := by rw [sI_1, if_pos ⟨rfl, rfl⟩]
theorem sI_na {S : Me} {a k : Nat} {x : Int} {b : Nat} (h : b ≠ a) : (sI S a k x).1 b = S.1 b := by
  funext j
  exact sI_ne (Or.inl h)
theorem sI_at {S : Me} {a k : Nat} {x : Int} {j : Nat} : (sI S a k x).1 a j = if j = k then x else S.1 a j := by
  rw [sI_1]
  by_cases h : j = k
  · rw [if_pos ⟨rfl, h⟩, if_pos h]
  · rw [if_neg (fun q => h q.2), if_neg h]
/-- what remember does to a Past at p -/
def rmT (S : Me) (p : Nat) (cm bb t : Int) (S' : Me) : Prop := S'.2 = S.2 ∧ (∀ a, a < p ∨ p + 7 < a → S'.1 a = S.1 a) ∧
  (S'.1 p 7 = (if cm = 0 then S.1 p 7 + 1 else S.1 p 7) ∧ S'.1 p 8 = (if cm = 1 then t else S.1 p 8) ∧ S'.1 p 9 = (if cm = 2 then t else S.1 p 9) ∧ S'.1 p 10 = (if cm = 3 then t else S.1 p 10) ∧ S'.1 p 11 = (if cm = 4 then t else S.1 p 11)) ∧
  (∀ k, S'.1 (p + 1) k = if cm = 0 ∧ k = bb.toNat then t else S.1 (p + 1) k) ∧ (∀ k, k < 4 → S'.1 (p + 2) k = if cm = 0 ∧ k ≠ bb.toNat then t else S.1 (p + 2) k) ∧
  (∀ k, S'.1 (p + 3) k = if cm = 1 ∧ k = bb.toNat then t else S.1 (p + 3) k) ∧ (∀ k, S'.1 (p + 4) k = if cm = 2 ∧ k = bb.toNat then t else S.1 (p + 4) k) ∧ (∀ k, S'.1 (p + 5) k = if cm = 3 ∧ k = bb.toNat then t else S.1 (p + 5) k) ∧
  (∀ k, S'.1 (p + 6) k = if (cm = 2 ∨ cm = 3) ∧ k = (bb / 2).toNat then t else S.1 (p + 6) k) ∧ (∀ k, S'.1 (p + 7) k = if cm = 0 ∧ k = (S.1 p 7 % 4).toNat then t else S.1 (p + 7) k)
theorem p_rememberOpen {V : Vt} {p : Nat} {bb t : Int} {S : Me} {Q : Me → Prop} (hb : 0 ≤ bb ∧ bb < 4) (h7 : 0 ≤ S.1 p 7 ∧ S.1 p 7 < 1000000000) (h : ∀ S', rmT S p 0 bb t S' → Q S') : PT_X5_rememberOpen V p bb t S Q := by
  refine ⟨hb, fun S0 e0 => ⟨5, ?_⟩⟩
  have key : ∀ (n : Nat) (y : Int) (S1 : Me), 0 ≤ y → y ≤ 4 → 4 - y < (n : Int) → S1.2 = S0.2 → (∀ a, a ≠ p + 2 → S1.1 a = S0.1 a) → (∀ k : Nat, S1.1 (p + 2) k = if (k : Int) < y ∧ (k : Int) ≠ bb then t else S0.1 (p + 2) k) → B_X5_rememberOpen_9 V p bb t Q n y S1 := by
    intro n
    induction n with
    | zero => intro y S1 a b c; omega
    | succ n ih =>
      intro y S1 y0 y4 hn g1 g2 g3
      unfold B_X5_rememberOpen_9
      refine ⟨fun q => ?_, fun q => ⟨fun q2 => ?_, fun q2 => ⟨by omega, fun S2 e2 => ?_⟩⟩⟩
      · have ey : y = 4 := by omega
        subst ey
        have u7 : S1.1 p 7 = S.1 p 7 := by rw [g2 p (by omega), e0, sI_ne (Or.inl (by omega))]
        rw [u7, tmod_e h7.1]
        refine ⟨by omega, fun S5 e5 => ?_⟩
        have v7 : S5.1 p 7 = S.1 p 7 := by rw [e5, sI_ne (Or.inl (by omega)), u7]
        rw [v7]
        refine ⟨by unfold rng; omega, fun S8 e8 => h S8 ?_⟩
        have z2 : S8.2 = S.2 := by rw [e8, sI_2, e5, sI_2, g1, e0, sI_2]
        have zf : ∀ a, a ≠ p → a ≠ p + 7 → a ≠ p + 2 → a ≠ p + 1 → S8.1 a = S.1 a := fun a h1 h2 h3 h4 => by rw [e8, sI_na h1, e5, sI_na h2, g2 a h3, e0, sI_na h4]
        have zp : ∀ k, k ≠ 7 → S8.1 p k = S.1 p k := fun k hk => by rw [e8, sI_ne (Or.inr hk), e5, sI_na (by omega), g2 p (by omega), e0, sI_na (by omega)]
        refine ⟨z2, fun a ha => zf a (by omega) (by omega) (by omega) (by omega), ⟨by rw [e8, sI_eq, if_pos rfl], by rw [zp 8 (by decide), if_neg (by decide)], by rw [zp 9 (by decide), if_neg (by decide)], by rw [zp 10 (by decide), if_neg (by decide)], by rw [zp 11 (by decide), if_neg (by decide)]⟩, fun k => ?_, fun k hk => ?_, fun k => ?_, fun k => ?_, fun k => ?_, fun k => ?_, fun k => ?_⟩
        · rw [e8, sI_na (by omega), e5, sI_na (by omega), g2 _ (by omega), e0, sI_at]
          simp
        · rw [e8, sI_na (by omega), e5, sI_na (by omega), g3 k, e0, sI_na (by omega)]
          by_cases c : k = bb.toNat
          · rw [if_neg (by omega), if_neg (by omega)]
          · rw [if_pos (by omega), if_pos ⟨rfl, c⟩]
        · rw [zf _ (by omega) (by omega) (by omega) (by omega)]; simp
        · rw [zf _ (by omega) (by omega) (by omega) (by omega)]; simp
        · rw [zf _ (by omega) (by omega) (by omega) (by omega)]; simp
        · rw [zf _ (by omega) (by omega) (by omega) (by omega)]; simp
        · rw [e8, sI_na (by omega), e5, sI_at, g2 _ (by omega), e0, sI_na (by omega)]
          simp
      · unfold B_X5_rememberOpen_26
        refine ⟨by unfold rng; omega, ih (y + 1) S1 (by omega) (by omega) (by omega) g1 g2 (fun k => ?_)⟩
        rw [g3 k]
        by_cases c : (k : Int) < y ∧ (k : Int) ≠ bb
        · rw [if_pos c, if_pos (by omega)]
        · rw [if_neg c, if_neg (by omega)]
      · unfold B_X5_rememberOpen_26
        refine ⟨by unfold rng; omega, ih (y + 1) S2 (by omega) (by omega) (by omega) (by rw [e2, sI_2, g1]) (fun a ha => by rw [e2, sI_na ha, g2 a ha]) (fun k => ?_)⟩
        rw [e2, sI_at, g3 k]
        by_cases c : k = y.toNat
        · rw [if_pos c, if_pos (by omega)]
        · rw [if_neg c]
          by_cases d : (k : Int) < y ∧ (k : Int) ≠ bb
          · rw [if_pos d, if_pos (by omega)]
          · rw [if_neg d, if_neg (by omega)]
  exact key 5 0 S0 (by omega) (by omega) (by omega) rfl (fun a _ => rfl) (fun k => by rw [if_neg (by omega)])
theorem p_remember {V : Vt} {p : Nat} {cm bb t : Int} {S : Me} {Q : Me → Prop} (hc : 0 ≤ cm ∧ cm < 5) (hb : cm < 4 → 0 ≤ bb ∧ bb < 4) (h7 : 0 ≤ S.1 p 7 ∧ S.1 p 7 < 1000000000) (h : ∀ S', rmT S p cm bb t S' → Q S') : PT_X5_remember V p cm bb t S Q := by
  have hc' : cm = 0 ∨ cm = 1 ∨ cm = 2 ∨ cm = 3 ∨ cm = 4 := by omega
  rcases hc' with rfl | rfl | rfl | rfl | rfl
  · have hb := hb (by omega)
    exact ⟨fun _ => p_rememberOpen hb h7 h, fun q => absurd q (by decide), fun q => absurd q (by decide), fun q => absurd q (by decide), fun q => absurd q (by decide)⟩
  · have hb := hb (by omega)
    refine ⟨fun q => absurd q (by decide), fun _ => ⟨hb, fun S4 e4 S5 e5 => h S5 ?_⟩, fun q => absurd q (by decide), fun q => absurd q (by decide), fun q => absurd q (by decide)⟩
    subst e4 e5
    refine ⟨rfl, fun a ha => by rw [sI_na (by omega), sI_na (by omega)], ⟨?_, ?_, ?_, ?_, ?_⟩, fun k => ?_, fun k hk => ?_, fun k => ?_, fun k => ?_, fun k => ?_, fun k => ?_, fun k => ?_⟩ <;> simp [sI_1]
  · have hb := hb (by omega)
    have eb : Int.tdiv bb 2 = bb / 2 := tdiv_e hb.1
    refine ⟨fun q => absurd q (by decide), fun q => absurd q (by decide), fun _ => ⟨hb, fun S4 e4 S5 e5 => ?_⟩, fun q => absurd q (by decide), fun q => absurd q (by decide)⟩
    rw [eb]
    refine ⟨by omega, fun S6 e6 => h S6 ?_⟩
    subst e4 e5 e6
    refine ⟨rfl, fun a ha => by rw [sI_na (by omega), sI_na (by omega), sI_na (by omega)], ⟨?_, ?_, ?_, ?_, ?_⟩, fun k => ?_, fun k hk => ?_, fun k => ?_, fun k => ?_, fun k => ?_, fun k => ?_, fun k => ?_⟩ <;> simp [sI_1]
  · have hb := hb (by omega)
    have eb : Int.tdiv bb 2 = bb / 2 := tdiv_e hb.1
    refine ⟨fun q => absurd q (by decide), fun q => absurd q (by decide), fun q => absurd q (by decide), fun _ => ⟨hb, fun S4 e4 S5 e5 => ?_⟩, fun q => absurd q (by decide)⟩
    rw [eb]
    refine ⟨by omega, fun S6 e6 => h S6 ?_⟩
    subst e4 e5 e6
    refine ⟨rfl, fun a ha => by rw [sI_na (by omega), sI_na (by omega), sI_na (by omega)], ⟨?_, ?_, ?_, ?_, ?_⟩, fun k => ?_, fun k hk => ?_, fun k => ?_, fun k => ?_, fun k => ?_, fun k => ?_, fun k => ?_⟩ <;> simp [sI_1]
  · refine ⟨fun q => absurd q (by decide), fun q => absurd q (by decide), fun q => absurd q (by decide), fun q => absurd q (by decide), fun _ S4 e4 => h S4 ?_⟩
    subst e4
    refine ⟨rfl, fun a ha => by rw [sI_na (by omega)], ⟨?_, ?_, ?_, ?_, ?_⟩, fun k => ?_, fun k hk => ?_, fun k => ?_, fun k => ?_, fun k => ?_, fun k => ?_, fun k => ?_⟩ <;> simp [sI_1]
/-- one rule of a table by bank -/
theorem rl_b {f f' : Nat → Int} {b bb t : Int} {C D : Prop} [Decidable C] [Decidable D] (hb : C → 0 ≤ b ∧ b < 4) (hbb : D → 0 ≤ bb ∧ bb < 4) (h : ∀ k, f' k = if D ∧ k = bb.toNat then t else f k) :
    (C ∧ D ∧ bb = b → (if C then f' b.toNat else -1000) = t) ∧ (¬ (C ∧ D ∧ bb = b) → (if C then f' b.toNat else -1000) = (if C then f b.toNat else -1000)) := by
  refine ⟨fun q => ?_, fun q => ?_⟩
  · rw [if_pos q.1, h, if_pos ⟨q.2.1, by rw [q.2.2]⟩]
  · by_cases c : C
    · rw [if_pos c, if_pos c, h]
      by_cases d : D
      · have h1 := hb c
        have h2 := hbb d
        rw [if_neg (fun g => q ⟨c, d, by omega⟩)]
      · rw [if_neg (fun g => d g.1)]
    · rw [if_neg c, if_neg c]
theorem rl_s {v v' t : Int} {C D : Prop} [Decidable C] [Decidable D] (h : v' = if D then t else v) : (C ∧ D → (if C then v' else -1000) = t) ∧ (¬ (C ∧ D) → (if C then v' else -1000) = (if C then v else -1000)) := by
  refine ⟨fun q => by rw [if_pos q.1, h, if_pos q.2], fun q => ?_⟩
  by_cases c : C
  · rw [if_pos c, if_pos c, h, if_neg (fun d => q ⟨c, d⟩)]
  · rw [if_neg c, if_neg c]
theorem rmT_cF {S S' : Me} {p : Nat} {cm bb t : Int} (h : rmT S p cm bb t S') (hc : 0 ≤ cm ∧ cm < 5) (hb : cm < 4 → 0 ≤ bb ∧ bb < 4) : ∀ r is b : Int, 0 ≤ r → r < 13 → r ≠ 10 → 0 ≤ is → is < 5 → (is < 4 → 0 ≤ b ∧ b < 4) → (hD r cm bb is b → cF S' p r is b = t) ∧ (¬ hD r cm bb is b → cF S' p r is b = cF S p r is b) := by
  obtain ⟨-, -, ⟨-, s8, s9, s10, s11⟩, t1, t2, t3, t4, t5, t6, -⟩ := h
  intro r is b r0 r1 r2 i0 i1 hib
  have hr' : r = 0 ∨ r = 1 ∨ r = 2 ∨ r = 3 ∨ r = 4 ∨ r = 5 ∨ r = 6 ∨ r = 7 ∨ r = 8 ∨ r = 9 ∨ r = 11 ∨ r = 12 := by omega
  rcases hr' with rfl | rfl | rfl | rfl | rfl | rfl | rfl | rfl | rfl | rfl | rfl | rfl
  · have := rl_b (C := is = 2 ∨ is = 3) (D := cm = 0) (b := b) (bb := bb) (by omega) (by omega) t1
    simpa [hD, cF] using this
  · have := rl_b (C := is = 1) (D := cm = 0) (b := b) (bb := bb) (by omega) (by omega) t1
    simpa [hD, cF] using this
  · have := rl_b (C := is = 0) (D := cm = 1) (b := b) (bb := bb) (by omega) (by omega) t3
    simpa [hD, cF] using this
  · have := rl_b (C := is = 1) (D := cm = 2) (b := b) (bb := bb) (by omega) (by omega) t4
    simpa [hD, cF] using this
  · have := rl_b (C := is = 1) (D := cm = 3) (b := b) (bb := bb) (by omega) (by omega) t5
    simpa [hD, cF] using this
  · have := rl_b (C := is = 2 ∨ is = 3) (D := cm = 2 ∨ cm = 3) (b := b / 2) (bb := bb / 2) (by omega) (by omega) t6
    have key : hD 5 cm bb is b ↔ (is = 2 ∨ is = 3) ∧ (cm = 2 ∨ cm = 3) ∧ bb / 2 = b / 2 := by
      simp only [hD]
      constructor
      · intro q
        have q : (is = 2 ∨ is = 3) ∧ (cm = 2 ∨ cm = 3) ∧ Int.tdiv bb 2 = Int.tdiv b 2 := by
          rcases q with q | q | q | q | q | q | q | q | q | q | q | q
          all_goals first | exact q.2 | (exfalso; have := q.1; omega)
        rw [tdiv_e (by omega), tdiv_e (by omega)] at q
        exact q
      · intro q
        refine Or.inr (Or.inr (Or.inr (Or.inr (Or.inr (Or.inl ⟨by trivial, q.1, q.2.1, ?_⟩)))))
        rw [tdiv_e (by omega), tdiv_e (by omega)]
        exact q.2.2
    rw [key]
    simpa [cF] using this
  · have := rl_b (C := is = 2 ∨ is = 3) (D := cm = 2 ∨ cm = 3) (b := 1 - b / 2) (bb := bb / 2) (by omega) (by omega) t6
    have key : hD 6 cm bb is b ↔ (is = 2 ∨ is = 3) ∧ (cm = 2 ∨ cm = 3) ∧ bb / 2 = 1 - b / 2 := by
      simp only [hD]
      constructor
      · intro q
        have q : (is = 2 ∨ is = 3) ∧ (cm = 2 ∨ cm = 3) ∧ ¬ Int.tdiv bb 2 = Int.tdiv b 2 := by
          rcases q with q | q | q | q | q | q | q | q | q | q | q | q
          all_goals first | exact q.2 | (exfalso; have := q.1; omega)
        rw [tdiv_e (by omega), tdiv_e (by omega)] at q
        omega
      · intro q
        refine Or.inr (Or.inr (Or.inr (Or.inr (Or.inr (Or.inr (Or.inl ⟨by trivial, q.1, q.2.1, ?_⟩))))))
        rw [tdiv_e (by omega), tdiv_e (by omega)]
        omega
    rw [key]
    simpa [cF] using this
  · have := rl_s (C := is = 3) s9
    simpa [hD, cF] using this
  · have := rl_s (C := is = 2) s10
    simpa [hD, cF] using this
  · have key : hD 9 cm bb is b ↔ is = 0 ∧ cm = 0 ∧ ¬ bb = b := by simp [hD]
    rw [key]
    by_cases c : is = 0
    · have hib := hib (by omega)
      have e1 : cF S' p 9 is b = S'.1 (p + 2) b.toNat := by simp [cF, c]
      have e2 : cF S p 9 is b = S.1 (p + 2) b.toNat := by simp [cF, c]
      rw [e1, e2, t2 b.toNat (by omega)]
      refine ⟨fun q => if_pos ⟨q.2.1, by have := hb (by omega); omega⟩, fun q => if_neg (fun g => q ⟨c, g.1, fun e => g.2 (by rw [e])⟩)⟩
    · refine ⟨fun q => absurd q.1 c, fun _ => ?_⟩
      simp [cF, c]
  · have := rl_s (C := True) s11
    simpa [hD, cF] using this
  · have := rl_s (C := is = 4) s8
    simpa [hD, cF] using this
theorem rmT_f4 {S S' : Me} {p : Nat} {cm bb t : Int} (h : rmT S p cm bb t S') (h7 : 0 ≤ S.1 p 7) : (cm = 0 → f4 S' p 0 = t ∧ ∀ j : Int, 0 ≤ j → j < 3 → f4 S' p (j + 1) = f4 S p j) ∧ (¬ cm = 0 → ∀ j : Int, 0 ≤ j → j < 4 → f4 S' p j = f4 S p j) := by
  obtain ⟨-, -, ⟨s7, -⟩, -, -, -, -, -, -, t7⟩ := h
  refine ⟨fun e => ⟨?_, fun j j0 j1 => ?_⟩, fun e j j0 j1 => ?_⟩
  · rw [if_pos e] at s7
    unfold f4
    rw [s7, t7, if_pos ⟨e, by congr 1; omega⟩]
  · rw [if_pos e] at s7
    unfold f4
    rw [s7, t7, if_neg (by omega), show S.1 p 7 + 1 - 1 - (j + 1) = S.1 p 7 - 1 - j by omega]
  · rw [if_neg e] at s7
    unfold f4
    rw [s7, t7, if_neg (fun q => e q.1)]

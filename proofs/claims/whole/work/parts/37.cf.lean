/-! ===== PURE PART: Past ===== -/
/-- the tick from which a rule counts, as a term -/
def cF (S : Me) (o : Nat) (r c b : Int) : Int :=
  if r = 0 then (if c = 2 ∨ c = 3 then S.1 (o + 1) b.toNat else -1000)
  else if r = 1 then (if c = 1 then S.1 (o + 1) b.toNat else -1000)
  else if r = 2 then (if c = 0 then S.1 (o + 3) b.toNat else -1000)
  else if r = 3 then (if c = 1 then S.1 (o + 4) b.toNat else -1000)
  else if r = 4 then (if c = 1 then S.1 (o + 5) b.toNat else -1000)
  else if r = 5 then (if c = 2 ∨ c = 3 then S.1 (o + 6) (b / 2).toNat else -1000)
  else if r = 6 then (if c = 2 ∨ c = 3 then S.1 (o + 6) (1 - b / 2).toNat else -1000)
  else if r = 7 then (if c = 3 then S.1 o 9 else -1000)
  else if r = 8 then (if c = 2 then S.1 o 10 else -1000)
  else if r = 9 then (if c = 0 then S.1 (o + 2) b.toNat else -1000)
  else if r = 10 then (if c = 0 then S.1 (o + 7) (S.1 o 7 % 4).toNat else -1000)
  else if r = 11 then S.1 o 11
  else (if c = 4 then S.1 o 8 else -1000)
theorem tdiv_e {a b : Int} (h : 0 ≤ a) : Int.tdiv a b = a / b := Int.tdiv_eq_ediv_of_nonneg h
theorem tmod_e {a b : Int} (h : 0 ≤ a) : Int.tmod a b = a % b := Int.tmod_eq_emod_of_nonneg h
theorem p_countedFrom {V : Vt} {o : Nat} {r c b : Int} {S : Me} {Q : Int → Me → Prop} (hr : 0 ≤ r ∧ r < 13) (hc : 0 ≤ c ∧ c < 5) (hb : c < 4 → 0 ≤ b ∧ b < 4) (h7 : 0 ≤ S.1 o 7) (h : Q (cF S o r c b) S) : PT_X5_countedFrom V o r c b S Q := by
  have hr' : r = 0 ∨ r = 1 ∨ r = 2 ∨ r = 3 ∨ r = 4 ∨ r = 5 ∨ r = 6 ∨ r = 7 ∨ r = 8 ∨ r = 9 ∨ r = 10 ∨ r = 11 ∨ r = 12 := by omega
  have hc' : c = 0 ∨ c = 1 ∨ c = 2 ∨ c = 3 ∨ c = 4 := by omega
  have e7 : Int.tmod (S.1 o 7) 4 = S.1 o 7 % 4 := tmod_e h7
  have m7 : 0 ≤ S.1 o 7 % 4 ∧ S.1 o 7 % 4 < 4 := by omega
  unfold PT_X5_countedFrom B_X5_countedFrom_10 B_X5_countedFrom_15
  unfold cF at h
  rw [e7]
  by_cases c4 : c = 4
  · subst c4
    rcases hr' with rfl | rfl | rfl | rfl | rfl | rfl | rfl | rfl | rfl | rfl | rfl | rfl | rfl <;> simp at h ⊢ <;> exact h
  · have hb := hb (by omega)
    have eb : Int.tdiv b 2 = b / 2 := tdiv_e hb.1
    have d1 : 0 ≤ b / 2 ∧ b / 2 < 2 := by omega
    have d2 : 0 ≤ 1 - b / 2 ∧ 1 - b / 2 < 2 := by omega
    have d3 : rng (1 - b / 2) := by unfold rng; omega
    rw [eb]
    have hc' : c = 0 ∨ c = 1 ∨ c = 2 ∨ c = 3 := by omega
    rcases hc' with rfl | rfl | rfl | rfl <;> rcases hr' with rfl | rfl | rfl | rfl | rfl | rfl | rfl | rfl | rfl | rfl | rfl | rfl | rfl <;> simp [hb, d1, d2, d3, m7] at h ⊢ <;> (try exact h) <;> (try exact ⟨d1, h⟩) <;> (try exact ⟨d2, h⟩) <;> (try exact ⟨d3, by omega, h⟩)
/-- leastTick: the least tick that all rules let -/
theorem p_leastTick {V : Vt} {o z : Nat} {c b : Int} {S : Me} {Q : Int → Me → Prop} (tz : V.2.1 z = 12) (nz : V.2.2.1 z = 13) (hc : 0 ≤ c ∧ c < 5) (hb : c < 4 → 0 ≤ b ∧ b < 4) (h7 : 0 ≤ S.1 o 7) (hr : ∀ r : Int, 0 ≤ r → r < 13 → rng (cF S o r c b + S.1 z r.toNat))
    (h : ∀ m : Int, (∀ t, m ≤ t ↔ 1 ≤ t ∧ ∀ r : Int, 0 ≤ r → r < 13 → cF S o r c b + S.1 z r.toNat ≤ t) → Q m S) : PT_X5_leastTick V o (some z) c b S Q := by
  have key : ∀ (n : Nat) (y4 y5 : Int), 0 ≤ y5 → y5 ≤ 13 → 13 - y5 < (n : Int) → (∀ t, y4 ≤ t ↔ 1 ≤ t ∧ ∀ r : Int, 0 ≤ r → r < y5 → cF S o r c b + S.1 z r.toNat ≤ t) → B_X5_leastTick_6 V o (some z) c b Q n y4 y5 S := by
    intro n
    induction n with
    | zero => intro y4 y5 h0 h1 h2 _; omega
    | succ n ih =>
      intro y4 y5 h0 h1 h2 hm
      unfold B_X5_leastTick_6
      refine ⟨z, rfl, tz, fun q => ?_, fun q => ?_⟩
      · rw [nz] at q
        have e : y5 = 13 := by omega
        subst e
        exact h y4 hm
      · rw [nz] at q
        have q : y5 < 13 := by omega
        refine p_countedFrom ⟨h0, q⟩ hc hb h7 ⟨⟨h0, by rw [nz]; exact q⟩, hr y5 h0 q, by omega, ih _ _ (by omega) (by omega) (by omega) (fun t => ?_)⟩
        have hm := hm t
        constructor
        · intro g
          have g1 : y4 ≤ t ∧ cF S o y5 c b + S.1 z y5.toNat ≤ t := by
            split at g <;> omega
          obtain ⟨a1, a2⟩ := hm.mp g1.1
          refine ⟨a1, fun r r0 r1 => ?_⟩
          by_cases e : r = y5
          · rw [e]; exact g1.2
          · exact a2 r r0 (by omega)
        · rintro ⟨a1, a2⟩
          have g1 := hm.mpr ⟨a1, fun r r0 r1 => a2 r r0 (by omega)⟩
          have g2 := a2 y5 h0 (by omega)
          split <;> omega
  exact ⟨14, key 14 1 0 (by omega) (by omega) (by omega) (fun t => ⟨fun g => ⟨g, fun r r0 r1 => by omega⟩, fun g => g.1⟩)⟩
/-- leastBroken: the least rule that it breaks, or -2 -/
theorem p_leastBroken {V : Vt} {o z : Nat} {c b x : Int} {S : Me} {Q : Int → Me → Prop} (tz : V.2.1 z = 12) (nz : V.2.2.1 z = 13) (hc : 0 ≤ c ∧ c < 5) (hb : c < 4 → 0 ≤ b ∧ b < 4) (h7 : 0 ≤ S.1 o 7) (hr : ∀ r : Int, 0 ≤ r → r < 13 → rng (cF S o r c b + S.1 z r.toNat))
    (h : (∀ r : Int, 0 ≤ r → r < 13 → cF S o r c b + S.1 z r.toNat ≤ x) → Q (-2) S) (h' : ∀ r : Int, 0 ≤ r → r < 13 → x < cF S o r c b + S.1 z r.toNat → (∀ r' : Int, 0 ≤ r' → r' < r → cF S o r' c b + S.1 z r'.toNat ≤ x) → Q r S) : PT_X5_leastBroken V o (some z) c b x S Q := by
  have key : ∀ (n : Nat) (y5 : Int), 0 ≤ y5 → y5 ≤ 13 → 13 - y5 < (n : Int) → (∀ r : Int, 0 ≤ r → r < y5 → cF S o r c b + S.1 z r.toNat ≤ x) → B_X5_leastBroken_3 V o (some z) c b x Q n y5 S := by
    intro n
    induction n with
    | zero => intro y5 h0 h1 h2 _; omega
    | succ n ih =>
      intro y5 h0 h1 h2 hm
      unfold B_X5_leastBroken_3
      refine ⟨z, rfl, tz, fun q => ?_, fun q => ?_⟩
      · rw [nz] at q
        have e : y5 = 13 := by omega
        subst e
        exact h hm
      · rw [nz] at q
        have q : y5 < 13 := by omega
        refine p_countedFrom ⟨h0, q⟩ hc hb h7 ⟨⟨h0, by rw [nz]; exact q⟩, hr y5 h0 q, fun g => ⟨by omega, ih _ (by omega) (by omega) (by omega) (fun r r0 r1 => ?_)⟩, fun g => h' y5 h0 q (by omega) hm⟩
        by_cases e : r = y5
        · rw [e]; exact g
        · exact hm r r0 (by omega)
  exact ⟨14, key 14 0 (by omega) (by omega) (by omega) (fun r r0 r1 => by omega)⟩

/-! ===== PURE PART: the reference's isHeld ===== -/
theorem rfa {q : Nat} {S : Me} (a k : Nat) (h : 1 ≤ a ∧ a < 29 ∧ a ≠ 22 ∧ a ≠ 23 ∧ a ≠ 24) : S.1 (q + a) k = rf q S a k := (rf_a (by unfold scr; omega)).symm
theorem rf0 {q : Nat} {S : Me} (k : Nat) (h : k ≠ 0 ∧ k ≠ 39 ∧ k ≠ 40 ∧ k ≠ 41 ∧ k ≠ 42) : S.1 q k = rf q S 0 k := (rf_0 (by unfold scr; omega)).symm
theorem tn (k : Nat) : Int.toNat (k : Int) = k := Int.toNat_natCast k
theorem p_waits {V : Vt} {q : Nat} {k : Nat} {S : Me} {Q : Int → Me → Prop} (hk : k < 400) (h1 : rf q S 10 k = 0 → Q 1 S) (h0 : ¬ rf q S 10 k = 0 → Q 0 S) : PT_X12_waits V q (k : Int) S Q := by
  unfold PT_X12_waits
  rw [tn, rfa 10 k (by decide)]
  exact ⟨by omega, h0, h1⟩
def dR (R : Rm) (j k : Nat) : Prop := (R 4 j = 4 ∧ R 5 j = R 5 k) ∨ (clR R j k ∧ ¬ R 4 k = 4)
def hRi (R : Rm) (k i : Nat) : Prop := ∃ j, j < i ∧ wt R j ∧ dR R j k
/-- held, as the reference says it -/
def hR (R : Rm) (k : Nat) : Prop := wt R k ∧ hRi R k k
theorem hRi_s {R : Rm} {k i : Nat} (hi : (i : Int) < R 0 13) : hRi R k (i + 1) ↔ hRi R k i ∨ (R 10 i = 0 ∧ dR R i k) := by
  constructor
  · rintro ⟨j, a, b, d⟩
    by_cases e : j = i
    · subst e; exact Or.inr ⟨b.2, d⟩
    · exact Or.inl ⟨j, by omega, b, d⟩
  · rintro (⟨j, a, b, d⟩ | ⟨b, d⟩)
    · exact ⟨j, by omega, b, d⟩
    · exact ⟨i, by omega, ⟨hi, b⟩, d⟩
theorem p_heldR {V : Vt} {q : Nat} {S : Me} {Q : Int → Me → Prop} {k : Nat} (hk : (k : Int) < rf q S 0 13) (h4 : rf q S 0 13 ≤ 400) (h1 : hR (rf q S) k → Q 1 S) (h0 : ¬ hR (rf q S) k → Q 0 S) : PT_X12_isHeld V q (k : Int) S Q := by
  have k4 : k < 400 := by omega
  have step : ∀ (K : Int → Int → Me → Prop) (y2 : Int) (i : Nat), i < k → (y2 = 0 ∨ y2 = 1) → (y2 = 1 ↔ hRi (rf q S) k i) → (∀ r : Int, (r = 0 ∨ r = 1) → (r = 1 ↔ hRi (rf q S) k (i + 1)) → K r ((i + 1 : Nat) : Int) S) → ∀ w : Int, (w = 0 ∨ w = 1) → (w = 1 ↔ (rf q S 4 i = 4 ∧ rf q S 5 i = rf q S 5 k)) → B_X12_isHeld_47 V q (k : Int) K y2 (i : Int) w S Q := by
    intro K y2 i hik h01 hy kk w w01 hw
    have s := hRi_s (R := rf q S) (k := k) (i := i) (by omega)
    have fin : ∀ x : Int, (x = 0 ∨ x = 1) → (x = 1 ↔ (clR (rf q S) i k ∧ ¬ rf q S 4 k = 4)) → B_X12_isHeld_107 V q (k : Int) K y2 (i : Int) w x S Q := by
      intro x x01 hx
      have c1 : hRi (rf q S) k (i + 1) → B_X12_isHeld_131 V q (k : Int) K (i : Int) S Q := fun z => ⟨by omega, by have := kk 1 (Or.inr rfl) ⟨fun _ => z, fun _ => rfl⟩; exact this⟩
      have c0 : ¬ hRi (rf q S) k (i + 1) → B_X12_isHeld_135 V q (k : Int) K (i : Int) S Q := fun z => ⟨by omega, by have := kk 0 (Or.inl rfl) ⟨fun e => absurd e (by decide), fun e => absurd e z⟩; exact this⟩
      unfold B_X12_isHeld_107
      refine ⟨fun z => c1 (s.mpr (Or.inl (hy.mp (by omega)))), fun z => ?_⟩
      have z' : ¬ hRi (rf q S) k i := fun e => by have := hy.mpr e; omega
      refine p_waits (by omega) (fun g => ⟨fun e => absurd e (by decide), fun _ => ⟨fun e => c1 (s.mpr (Or.inr ⟨g, Or.inl (hw.mp (by omega))⟩)), fun e => ⟨fun e2 => c0 (fun e3 => ?_), fun e2 => c1 (s.mpr (Or.inr ⟨g, Or.inr (hx.mp (by omega))⟩))⟩⟩⟩) (fun g => ⟨fun _ => c0 (fun e => ?_), fun e => absurd rfl e⟩)
      · rcases s.mp e3 with e4 | ⟨-, e4 | e4⟩
        · exact z' e4
        · have := hw.mpr e4; omega
        · have := hx.mpr e4; omega
      · rcases s.mp e with e4 | ⟨e4, -⟩
        · exact z' e4
        · exact g e4
    unfold B_X12_isHeld_47
    rw [tn, tn, rfa 4 i (by decide), rfa 4 k (by decide), rfa 6 i (by decide), rfa 6 k (by decide)]
    have f0 : ¬ (clR (rf q S) i k ∧ ¬ rf q S 4 k = 4) → B_X12_isHeld_106 V q (k : Int) K y2 (i : Int) w S Q := fun z => fin 0 (Or.inl rfl) ⟨fun e => absurd e (by decide), fun e => absurd e z⟩
    have f1 : (clR (rf q S) i k ∧ ¬ rf q S 4 k = 4) → B_X12_isHeld_102 V q (k : Int) K y2 (i : Int) w S Q := fun z => fin 1 (Or.inr rfl) ⟨fun _ => z, fun _ => rfl⟩
    refine ⟨by omega, fun g => f0 (fun z => z.1.1 g), fun g => ⟨by omega, fun g2 => f0 (fun z => z.2 g2), fun g2 => ⟨by omega, by omega, fun g3 => f0 (fun z => g3 z.1.2.1), fun g3 => ⟨by omega, fun g4 => f1 ⟨⟨g, g3, Or.inl g4⟩, g2⟩, fun g4 => ⟨by omega, fun g5 => f0 (fun z => z.1.2.2.elim (fun e => e g4) (fun e => e g5)), fun g5 => f1 ⟨⟨g, g3, Or.inr g5⟩, g2⟩⟩⟩⟩⟩⟩
  have key : ∀ (fu i : Nat) (y2 : Int), k - i < fu → i ≤ k → (y2 = 0 ∨ y2 = 1) → (y2 = 1 ↔ hRi (rf q S) k i) → (i = 0 ∨ rf q S 10 k = 0) → B_X12_isHeld_4 V q (k : Int) Q fu y2 (i : Int) S := by
    intro fu
    induction fu with
    | zero => intro i y2 a; omega
    | succ fu ih =>
      intro i y2 hf hik h01 hy hw
      unfold B_X12_isHeld_4
      refine ⟨fun g => ?_, fun g => p_waits k4 (fun gw => ?_) (fun gw => ?_)⟩
      · have e : i = k := by omega
        subst e
        refine ⟨h01, ?_⟩
        rcases h01 with e | e
        · rw [e]
          exact h0 (fun z => by have := hy.mpr z.2; omega)
        · rw [e]
          have z := hy.mp e
          refine h1 ⟨⟨hk, ?_⟩, z⟩
          rcases hw with w | w
          · obtain ⟨j, j1, -⟩ := z
            omega
          · exact w
      · refine ⟨fun e => absurd e (by decide), fun _ => ⟨by omega, ?_⟩⟩
        rw [tn, tn, rfa 4 i (by decide), rfa 5 i (by decide), rfa 5 k (by decide)]
        have kk : ∀ r : Int, (r = 0 ∨ r = 1) → (r = 1 ↔ hRi (rf q S) k (i + 1)) → B_X12_isHeld_4 V q (k : Int) Q fu r ((i + 1 : Nat) : Int) S := fun r r1 r2 => ih (i + 1) r (by omega) (by omega) r1 r2 (Or.inr gw)
        have z0 : ¬ (rf q S 4 i = 4 ∧ rf q S 5 i = rf q S 5 k) → B_X12_isHeld_46 V q (k : Int) (B_X12_isHeld_4 V q (k : Int) Q fu) y2 (i : Int) S Q := fun z => step _ y2 i (by omega) h01 hy kk 0 (Or.inl rfl) ⟨fun e => absurd e (by decide), fun e => absurd e z⟩
        refine ⟨fun g4 => z0 (fun e => g4 e.1), fun g4 => ⟨by omega, by omega, fun g5 => z0 (fun e => g5 e.2), fun g5 => step _ y2 i (by omega) h01 hy kk 1 (Or.inr rfl) ⟨fun _ => ⟨g4, g5⟩, fun _ => rfl⟩⟩⟩
      · refine ⟨fun _ => ⟨h01, ?_⟩, fun e => absurd rfl e⟩
        rcases hw with w | w
        · subst w
          have : y2 = 0 := by
            rcases h01 with e | e
            · exact e
            · obtain ⟨j, j1, -⟩ := hy.mp e
              omega
          rw [this]
          exact h0 (fun z => gw z.1.2)
        · exact absurd w gw
  refine ⟨k + 1, key (k + 1) 0 0 (by omega) (by omega) (Or.inl rfl) ⟨fun e => absurd e (by decide), fun ⟨j, j1, _⟩ => by omega⟩ (Or.inl rfl)⟩

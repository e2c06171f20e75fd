/-! ===== PURE PART: the reference's asked ===== -/
/-- whether rule r speaks of a command (is, b) behind an earlier one (was, wb) -/
def hD (r was wb is b : Int) : Prop :=
  (r = 0 ∧ (is = 2 ∨ is = 3) ∧ was = 0 ∧ wb = b) ∨ (r = 1 ∧ is = 1 ∧ was = 0 ∧ wb = b) ∨ (r = 2 ∧ is = 0 ∧ was = 1 ∧ wb = b) ∨ (r = 3 ∧ is = 1 ∧ was = 2 ∧ wb = b) ∨ (r = 4 ∧ is = 1 ∧ was = 3 ∧ wb = b)
  ∨ (r = 5 ∧ (is = 2 ∨ is = 3) ∧ (was = 2 ∨ was = 3) ∧ Int.tdiv wb 2 = Int.tdiv b 2) ∨ (r = 6 ∧ (is = 2 ∨ is = 3) ∧ (was = 2 ∨ was = 3) ∧ ¬ Int.tdiv wb 2 = Int.tdiv b 2)
  ∨ (r = 7 ∧ is = 3 ∧ was = 2) ∨ (r = 8 ∧ is = 2 ∧ was = 3) ∨ (r = 9 ∧ is = 0 ∧ was = 0 ∧ ¬ wb = b) ∨ (r = 11 ∧ was = 4) ∨ (r = 12 ∧ is = 4 ∧ was = 1)
theorem p_asked {V : Vt} {o : Nat} {r was wb is b : Int} {S : Me} {Q : Int → Me → Prop} (hr : 0 ≤ r ∧ r < 13) (h1 : hD r was wb is b → Q (S.1 (o + 1) r.toNat) S) (h0 : ¬ hD r was wb is b → Q 0 S) : PT_X12_asked V o r was wb is b S Q := by
  have z0 : ¬ hD r was wb is b → B_X12_asked_409 V o r was wb is b 0 S Q := fun e => ⟨fun _ => h0 e, fun e => absurd rfl e⟩
  have z1 : hD r was wb is b → B_X12_asked_409 V o r was wb is b 1 S Q := fun e => ⟨fun e => absurd e (by decide), fun _ => ⟨hr, h1 e⟩⟩
  clear h1 h0
  have main : ∀ y6 y7 y8 w0 : Int, (y6 = 0 ↔ ¬ wb = b) → (y7 = 0 ↔ ¬ Int.tdiv wb 2 = Int.tdiv b 2) → (y8 = 0 ↔ ¬ (is = 2 ∨ is = 3)) → (w0 = 0 ↔ ¬ (was = 2 ∨ was = 3)) → B_X12_asked_64 V o r was wb is b y6 y7 y8 w0 S Q := by
    intro y6 y7 y8 w0 e6 e7 e8 e0
    unfold B_X12_asked_64 B_X12_asked_385 B_X12_asked_406 B_X12_asked_364 B_X12_asked_340 B_X12_asked_319 B_X12_asked_298 B_X12_asked_273 B_X12_asked_248 B_X12_asked_222 B_X12_asked_196 B_X12_asked_171 B_X12_asked_146 B_X12_asked_407 B_X12_asked_365 B_X12_asked_341 B_X12_asked_320 B_X12_asked_299 B_X12_asked_274 B_X12_asked_249 B_X12_asked_223 B_X12_asked_197 B_X12_asked_172 B_X12_asked_147 B_X12_asked_380
    generalize B_X12_asked_409 V o r was wb is b 0 S Q = P0 at z0 ⊢
    generalize B_X12_asked_409 V o r was wb is b 1 S Q = P1 at z1 ⊢
    unfold hD at z0 z1
    generalize Int.tdiv wb 2 = u at z0 z1 e7 ⊢
    generalize Int.tdiv b 2 = v at z0 z1 e7 ⊢
    simp only [e6, e7, e8, e0]
    clear e6 e7 e8 e0
    refine ⟨fun e => ?_, fun e => ?_, fun e => ?_, fun e => ?_, fun e => ?_, fun e => ?_, fun e => ?_, fun e => ?_, fun e => ?_, fun e => ?_, fun e => ?_, fun e => ?_, fun e => ?_⟩
    rotate_right
    · have e : r = 12 := by omega
      subst e
      simp at z0 z1
      refine ⟨fun g => absurd rfl g, fun _ => ⟨fun g => z0 (fun a => absurd a g), fun g => ⟨fun q => z0 (fun _ => q), fun q => z1 g q⟩⟩⟩
    all_goals subst e
    all_goals simp at z0 z1
    all_goals (repeat' (first | apply And.intro | intro _))
    all_goals (first | exact z0 (by omega) | exact z1 (by omega) | exact z1 (by omega) (by omega) | exact z1 (by omega) (by omega) (by omega) | (exfalso; omega) | exact z0)
  have m2 : ∀ y6 y7 y8 : Int, (y6 = 0 ↔ ¬ wb = b) → (y7 = 0 ↔ ¬ Int.tdiv wb 2 = Int.tdiv b 2) → (y8 = 0 ↔ ¬ (is = 2 ∨ is = 3)) → B_X12_asked_47 V o r was wb is b y6 y7 y8 S Q := fun y6 y7 y8 e6 e7 e8 => ⟨fun g => main _ _ _ _ e6 e7 e8 (by omega), fun g => ⟨fun g2 => main _ _ _ _ e6 e7 e8 (by omega), fun g2 => main _ _ _ _ e6 e7 e8 (by omega)⟩⟩
  have m3 : ∀ y6 y7 : Int, (y6 = 0 ↔ ¬ wb = b) → (y7 = 0 ↔ ¬ Int.tdiv wb 2 = Int.tdiv b 2) → B_X12_asked_28 V o r was wb is b y6 y7 S Q := fun y6 y7 e6 e7 => ⟨fun g => m2 _ _ _ e6 e7 (by omega), fun g => ⟨fun g2 => m2 _ _ _ e6 e7 (by omega), fun g2 => m2 _ _ _ e6 e7 (by omega)⟩⟩
  have m4 : ∀ y6 : Int, (y6 = 0 ↔ ¬ wb = b) → B_X12_asked_11 V o r was wb is b y6 S Q := fun y6 e6 => ⟨fun g => m3 _ _ e6 ⟨fun _ => g, fun _ => rfl⟩, fun g => m3 _ _ e6 ⟨fun q => absurd q (by decide), fun q => absurd g q⟩⟩
  exact ⟨fun g => m4 _ ⟨fun _ => g, fun _ => rfl⟩, fun g => m4 _ ⟨fun q => absurd q (by decide), fun q => absurd g q⟩⟩

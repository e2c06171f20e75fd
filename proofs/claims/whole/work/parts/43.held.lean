/-! ===== PURE PART: an Ask's own methods; who waits; Queue.isHeld ===== -/
/-- an Ask's kind, by its class -/
def kT (t : Nat) : Int := if t = 5 then 0 else if t = 9 then 1 else if t = 2 then 2 else if t = 8 then 3 else 4
theorem pv_kind {V : Vt} {a : Nat} {S : Me} {Q : Int → Me → Prop} (h : isA (V.2.1 a)) (k : Q (kT (V.2.1 a)) S) : PV_kind V a S Q := by
  unfold PV_kind PT_X2_kind PT_X3_kind PT_X6_kind PT_X9_kind PT_X10_kind
  rcases h with e | e | e | e | e <;> rw [e] at k ⊢ <;> simpa [kT] using k
theorem kT_b {t : Nat} : 0 ≤ kT t ∧ kT t ≤ 4 := by unfold kT; repeat' split <;> try omega
theorem pv_isFence {V : Vt} {a : Nat} {S : Me} {Q : Int → Me → Prop} (h : isA (V.2.1 a)) (k1 : kT (V.2.1 a) = 4 → Q 1 S) (k0 : ¬ kT (V.2.1 a) = 4 → Q 0 S) : PV_isFence V a S Q := pv_kind h ⟨k0, k1⟩
theorem pv_clash {V : Vt} {a b : Nat} {S : Me} {Q : Int → Me → Prop} (ha : isA (V.2.1 a)) (hb : isA (V.2.1 b)) (hf : kT (V.2.1 a) = 4 ↔ S.1 a 2 = -2) (k1 : ¬ kT (V.2.1 a) = 4 → S.1 a 2 = S.1 b 2 → (¬ kT (V.2.1 a) = 0 ∨ ¬ kT (V.2.1 b) = 0) → Q 1 S) (k0 : ¬ (¬ kT (V.2.1 a) = 4 ∧ S.1 a 2 = S.1 b 2 ∧ (¬ kT (V.2.1 a) = 0 ∨ ¬ kT (V.2.1 b) = 0)) → Q 0 S) : PV_clashesWith V a (some b) S Q := by
  unfold PV_clashesWith PT_X0_clashesWith
  exact ⟨fun g => k0 (fun q => q.1 (hf.mpr g)), fun g0 => ⟨b, rfl, hb, fun g2 => k0 (fun q => g2 q.2.1), fun g2 => pv_kind ha ⟨fun g3 => k1 (fun g => g0 (hf.mp g)) g2 (Or.inl g3), fun g3 => pv_kind hb ⟨fun g4 => k0 (fun q => q.2.2.elim (fun z => z g3) (fun z => z g4)), fun g4 => k1 (fun g => g0 (hf.mp g)) g2 (Or.inr g4)⟩⟩⟩⟩
theorem pv_doneBy {V : Vt} {a : Nat} {S : Me} {Q : Int → Me → Prop} (h : isA (V.2.1 a)) (k : Q (if kT (V.2.1 a) = 0 then 2 else 3) S) : PV_doneBy V a S Q := by
  unfold PV_doneBy PT_X0_doneBy PT_X6_doneBy
  rcases h with e | e | e | e | e <;> rw [e] at k ⊢ <;> simpa [kT] using k
theorem pv_answer {V : Vt} {a : Nat} {x : Int} {S : Me} {Q : Int → Me → Prop} (h : isA (V.2.1 a)) (k : Q (if kT (V.2.1 a) = 0 ∨ kT (V.2.1 a) = 3 then x else -2) S) : PV_answerFrom V a x S Q := by
  unfold PV_answerFrom PT_X0_answerFrom PT_X6_answerFrom PT_X9_answerFrom
  rcases h with e | e | e | e | e <;> rw [e] at k ⊢ <;> simpa [kT] using k
theorem pv_octet {V : Vt} {a : Nat} {x : Int} {S : Me} {Q : Int → Me → Prop} (h : isA (V.2.1 a)) (k0 : kT (V.2.1 a) = 0 ∨ kT (V.2.1 a) = 4 → Q x S) (k1 : kT (V.2.1 a) = 1 ∨ kT (V.2.1 a) = 3 → Q (S.1 a 11) S) (k2 : kT (V.2.1 a) = 2 → Q (bOr (bAnd x (bXor (S.1 a 12) (-1))) (bAnd (S.1 a 11) (S.1 a 12))) S) : PV_octetAfter V a x S Q := by
  unfold PV_octetAfter PT_X0_octetAfter PT_X3_octetAfter PT_X10_octetAfter
  rcases h with e | e | e | e | e <;> rw [e] at k0 k1 k2 ⊢ <;> simp [kT] at k0 k1 k2 ⊢ <;> assumption
/-- the k-th waits; it is no fence and waits; it is a fence and waits -/
def wt (R : Rm) (k : Nat) : Prop := (k : Int) < R 0 13 ∧ R 10 k = 0
def pw (R : Rm) (k : Nat) : Prop := wt R k ∧ ¬ R 4 k = 4
def fw (R : Rm) (k : Nat) : Prop := wt R k ∧ R 4 k = 4
/-- what the cells of the Asks hold of the reference's rows, as far as it never changes -/
def aK (V : Vt) (S : Me) (c : Nat → Nat) (R : Rm) (n : Nat) : Prop := (∀ i k, i < n → k < n → c i = c k → i = k) ∧ ∀ i, i < n → isA (V.2.1 (c i)) ∧ kT (V.2.1 (c i)) = R 4 i ∧ S.1 (c i) 1 = R 5 i ∧ S.1 (c i) 2 = R 6 i ∧ (R 4 i = 4 ↔ R 6 i = -2)
def clR (R : Rm) (i k : Nat) : Prop := ¬ R 4 i = 4 ∧ R 6 i = R 6 k ∧ (¬ R 4 i = 0 ∨ ¬ R 4 k = 0)
/-- the k-th is held; if f is 0 a fence holds only behind another of its asker that is no fence -/
def hC (R : Rm) (k : Nat) (f : Int) : Prop := ∃ i, i < k ∧ wt R i ∧ (clR R i k ∨ (R 5 i = R 5 k ∧ R 4 i = 4 ∧ (¬ f = 0 ∨ ∃ j, j < i ∧ pw R j ∧ R 5 j = R 5 k)))
theorem p_heldC {V : Vt} {u : Nat} {S : Me} {Q : Int → Me → Prop} {c : Nat → Nat} {R : Rm} {n k : Nat} {f : Int} (hn : ∀ i, wt R i → i < n) (hA : aK V S c R n) (hC' : Cn S u c (wt R) n) (hk : wt R k)
    (h1 : hC R k f → Q 1 S) (h0 : ¬ hC R k f → Q 0 S) : PT_X7_isHeld V u (some (c k)) f S Q := by
  obtain ⟨hc, hA⟩ := hA
  obtain ⟨n1, n2, -⟩ := hC'
  have hkn := hn k hk
  obtain ⟨hAk, hTk, hsk, hdk, -⟩ := hA k hkn
  have key : ∀ (fu i : Nat) (y3 : Int) (y4 : Option Nat), k + 1 - i < fu → i ≤ k → Nx (wt R) c i y4 → (¬ y3 = 0 ↔ (¬ f = 0 ∨ ∃ j, j < i ∧ pw R j ∧ R 5 j = R 5 k)) → (∀ j, j < i → wt R j → ¬ (clR R j k ∨ (R 5 j = R 5 k ∧ R 4 j = 4 ∧ (¬ f = 0 ∨ ∃ j', j' < j ∧ pw R j' ∧ R 5 j' = R 5 k)))) → B_X7_isHeld_8 V u (some (c k)) f Q fu y3 y4 S := by
    intro fu
    induction fu with
    | zero => intro i y3 y4 a; omega
    | succ fu ih =>
      intro i y3 y4 hf hik hx hy hno
      unfold B_X7_isHeld_8
      rcases hx with ⟨e, a⟩ | ⟨j, e, b1, b2, b3⟩
      · exact absurd hk (a k hik)
      · have hjn := hn j b2
        have hjk : j ≤ k := by
          rcases Nat.lt_or_ge k j with z | z
          · exact absurd hk (b3 k hik z)
          · exact z
        have hf2 : k + 1 - (j + 1) < fu := by clear hy; omega
        subst e
        obtain ⟨hAj, hTj, hsj, hdj, hfj⟩ := hA j hjn
        have hno' : ∀ j', j' < j → wt R j' → ¬ (clR R j' k ∨ (R 5 j' = R 5 k ∧ R 4 j' = 4 ∧ (¬ f = 0 ∨ ∃ j'', j'' < j' ∧ pw R j'' ∧ R 5 j'' = R 5 k))) := by
          intro j' z1 z2
          rcases Nat.lt_or_ge j' i with y | y
          · exact hno j' y z2
          · exact absurd z2 (b3 j' y z1)
        have hy' : ¬ y3 = 0 ↔ (¬ f = 0 ∨ ∃ j', j' < j ∧ pw R j' ∧ R 5 j' = R 5 k) := by
          rw [hy]
          constructor
          · rintro (z | ⟨j', z1, z2⟩)
            · exact Or.inl z
            · exact Or.inr ⟨j', by omega, z2⟩
          · rintro (z | ⟨j', z1, z2⟩)
            · exact Or.inl z
            · refine Or.inr ⟨j', ?_, z2⟩
              rcases Nat.lt_or_ge j' i with y | y
              · exact y
              · exact absurd z2.1.1 (b3 j' y z1)
        refine ⟨fun q => (by cases q), fun _ => ⟨fun q => ?_, fun q => ⟨c j, rfl, hAj, ?_⟩⟩⟩
        · have ejk : j = k := hc j k hjn hkn (Option.some.inj q)
          subst ejk
          exact h0 (fun ⟨i', z1, z2, z3⟩ => hno' i' z1 z2 z3)
        · have hlt : j < k := by
            rcases Nat.lt_or_ge j k with z | z
            · exact z
            · have : j = k := by omega
              exact absurd (by rw [this]) q
          refine pv_clash hAj hAk (by rw [hTj, hdj]; exact hfj) (fun g1 g2 g3 => ?_) (fun g => ?_)
          · refine ⟨fun z => absurd z (by decide), fun _ => h1 ⟨j, hlt, b2, Or.inl ⟨by rw [← hTj]; exact g1, by rw [← hdj, ← hdk]; exact g2, by rw [← hTj, ← hTk]; exact g3⟩⟩⟩
          · have ncl : ¬ clR R j k := by
              rintro ⟨z1, z2, z3⟩
              exact g ⟨by rw [hTj]; exact z1, by rw [hdj, hdk]; exact z2, by rw [hTj, hTk]; exact z3⟩
            refine ⟨fun _ => ⟨c k, rfl, hAk, ?_⟩, fun z => absurd rfl z⟩
            rw [hsj, hsk]
            have nxt : ∀ y : Int, (¬ y = 0 ↔ (¬ f = 0 ∨ ∃ j', j' < j + 1 ∧ pw R j' ∧ R 5 j' = R 5 k)) → ¬ (R 5 j = R 5 k ∧ R 4 j = 4 ∧ (¬ f = 0 ∨ ∃ j', j' < j ∧ pw R j' ∧ R 5 j' = R 5 k)) → B_X7_isHeld_74 V u (some (c k)) f (B_X7_isHeld_8 V u (some (c k)) f Q fu) y (some (c j)) S Q := by
              intro y hy2 hdec
              refine ⟨c j, rfl, hAj, ih (j + 1) y _ hf2 hlt (n2 j b2) hy2 ?_⟩
              intro j' z1 z2
              rcases Nat.lt_or_ge j' j with z | z
              · exact hno' j' z z2
              · have : j' = j := by omega
                subst this
                rintro (w | w)
                · exact ncl w
                · exact hdec w
            refine ⟨fun ne => nxt y3 ?_ (fun z => ne z.1), fun eq => ?_⟩
            · rw [hy']
              constructor
              · rintro (z | ⟨j', z1, z2⟩)
                · exact Or.inl z
                · exact Or.inr ⟨j', by omega, z2⟩
              · rintro (z | ⟨j', z1, z2, z3⟩)
                · exact Or.inl z
                · refine Or.inr ⟨j', ?_, z2, z3⟩
                  rcases Nat.lt_or_ge j' j with w | w
                  · exact w
                  · have : j' = j := by omega
                    subst this
                    exact absurd z3 ne
            · have e56 : ¬ (kT (V.2.1 (c j)) = 4 ∧ ¬ y3 = 0) → B_X7_isHeld_56 V u (some (c k)) f (B_X7_isHeld_8 V u (some (c k)) f Q fu) y3 (some (c j)) S Q := by
                intro hne
                have ndec : ¬ (R 5 j = R 5 k ∧ R 4 j = 4 ∧ (¬ f = 0 ∨ ∃ j', j' < j ∧ pw R j' ∧ R 5 j' = R 5 k)) := fun z => hne ⟨by rw [hTj]; exact z.2.1, hy'.mpr z.2.2⟩
                unfold B_X7_isHeld_56 B_X7_isHeld_68 B_X7_isHeld_73
                refine ⟨fun z => nxt 1 ?_ ndec, fun z => ⟨c j, rfl, hAj, pv_isFence hAj (fun z4 => ⟨fun _ => nxt 0 ?_ ndec, fun w => absurd w (by decide)⟩) (fun z4 => ⟨fun w => absurd rfl w, fun _ => nxt 1 ?_ ndec⟩)⟩⟩
                · refine ⟨fun _ => ?_, fun _ => by decide⟩
                  rcases hy'.mp z with w | ⟨j', w1, w2⟩
                  · exact Or.inl w
                  · exact Or.inr ⟨j', by omega, w2⟩
                · refine ⟨fun w => absurd rfl w, fun w => ?_⟩
                  exfalso
                  rcases w with w | ⟨j', w1, w2, w3⟩
                  · exact absurd z (hy'.mpr (Or.inl w))
                  · rcases Nat.lt_or_ge j' j with v | v
                    · exact absurd z (hy'.mpr (Or.inr ⟨j', v, w2, w3⟩))
                    · have : j' = j := by omega
                      subst this
                      exact w2.2 (by rw [← hTj]; exact z4)
                · exact ⟨fun _ => Or.inr ⟨j, by omega, ⟨b2, by rw [← hTj]; exact z4⟩, eq⟩, fun _ => by decide⟩
              refine pv_isFence hAj (fun z4 => ⟨fun w => absurd w (by decide), fun _ => ⟨fun z3 => e56 (fun w => w.2 z3), fun z3 => h1 ⟨j, hlt, b2, Or.inr ⟨eq, by rw [← hTj]; exact z4, hy'.mp z3⟩⟩⟩⟩) (fun z4 => ⟨fun _ => e56 (fun w => z4 w.1), fun w => absurd rfl w⟩)
  refine ⟨k + 2, key (k + 2) 0 f _ (by omega) (by omega) n1 ?_ (fun j hj => by omega)⟩
  constructor
  · intro z; exact Or.inl z
  · rintro (z | ⟨j, z, -⟩)
    · exact z
    · omega

/-! ===== PURE PART: the reference's fits, over its ring of the last 40 commands ===== -/
/-- where the ring holds the i-th latest command -/
def en (S : Me) (o i : Nat) : Nat := ((S.1 o 26 - 1 - (i : Int)) % 40).toNat
/-- how many of the i latest are opens -/
def op (S : Me) (o : Nat) : Nat → Int
  | 0 => 0
  | i + 1 => op S o i + (if S.1 (o + 14) (en S o i) = 0 then 1 else 0)
def ok13 (S : Me) (o i : Nat) (is b t : Int) : Prop := ∀ r : Int, 0 ≤ r → r < 13 → r ≠ 10 → hD r (S.1 (o + 14) (en S o i)) (S.1 (o + 15) (en S o i)) is b → S.1 (o + 1) r.toNat ≤ t - S.1 (o + 13) (en S o i)
def okF (S : Me) (o i : Nat) (is b t : Int) : Prop := ok13 S o i is b t ∧ (S.1 (o + 14) (en S o i) = 0 → is = 0 → op S o i = 3 → S.1 (o + 1) 10 ≤ t - S.1 (o + 13) (en S o i))
theorem op_b (S : Me) (o : Nat) : ∀ i : Nat, 0 ≤ op S o i ∧ op S o i ≤ (i : Int)
  | 0 => by simp [op]
  | i + 1 => by
    have h := op_b S o i
    simp only [op]
    split <;> omega
theorem p_fits {V : Vt} {o : Nat} {is b t : Int} {S : Me} {Q : Int → Me → Prop} (hn : 0 ≤ S.1 o 26 ∧ S.1 o 26 ≤ 1000000) (ht : ∀ i : Nat, (i : Int) < S.1 o 26 → i < 40 → rng (t - S.1 (o + 13) (en S o i)) ∧ 0 ≤ t - S.1 (o + 13) (en S o i))
    (h1 : (∀ i : Nat, (i : Int) < S.1 o 26 → i < 40 → okF S o i is b t) → Q 1 S) (h0 : ∀ i : Nat, (i : Int) < S.1 o 26 → i < 40 → ¬ okF S o i is b t → Q 0 S) : PT_X12_fits V o is b t S Q := by
  have outer : ∀ (n i : Nat), (i : Int) ≤ S.1 o 26 → i ≤ 40 → 40 - i < n → (∀ j : Nat, j < i → okF S o j is b t) → B_X12_fits_11 V o is b t Q n (if is = 0 then op S o i else 0) (S.1 o 26 - 1 - (i : Int)) S := by
    intro n
    induction n with
    | zero => intro i _ _ h _; omega
    | succ n ih =>
      intro i hi h40 hf hj
      unfold B_X12_fits_11
      refine ⟨fun g => h1 (fun j a1 a2 => hj j (by omega)), fun g => ⟨by omega, fun g2 => h1 (fun j a1 a2 => hj j (by omega)), fun g2 => ?_⟩⟩
      have i40 : i < 40 := by omega
      have hlt : (i : Int) < S.1 o 26 := by omega
      have em : Int.tmod (S.1 o 26 - 1 - (i : Int)) 40 = (S.1 o 26 - 1 - (i : Int)) % 40 := tmod_e (by omega)
      rw [em]
      have hm : 0 ≤ (S.1 o 26 - 1 - (i : Int)) % 40 ∧ (S.1 o 26 - 1 - (i : Int)) % 40 < 40 := by omega
      have ee : Int.toNat ((S.1 o 26 - 1 - (i : Int)) % 40) = en S o i := rfl
      obtain ⟨r1, r2⟩ := ht i hlt i40
      have hob := op_b S o i
      rw [ee]
      refine ⟨hm, r1, ?_⟩
      have inner : ∀ (k : Nat) (y8 : Int), 0 ≤ y8 → y8 ≤ 13 → 13 - y8 < (k : Int) → (∀ r : Int, 0 ≤ r → r < y8 → r ≠ 10 → hD r (S.1 (o + 14) (en S o i)) (S.1 (o + 15) (en S o i)) is b → S.1 (o + 1) r.toNat ≤ t - S.1 (o + 13) (en S o i)) → B_X12_fits_49 V o is b t (B_X12_fits_11 V o is b t Q n) Q k (if is = 0 then op S o i else 0) (S.1 o 26 - 1 - (i : Int)) ((S.1 o 26 - 1 - (i : Int)) % 40) (t - S.1 (o + 13) (en S o i)) y8 S := by
        intro k
        induction k with
        | zero => intro y8 a1 a2 a3 _; omega
        | succ k ik =>
          intro y8 a1 a2 a3 hr
          unfold B_X12_fits_49
          rw [ee]
          refine ⟨fun g3 => ⟨hm, ?_⟩, fun g3 => ⟨fun g4 => ?_, fun g4 => ⟨hm, hm, ?_⟩⟩⟩
          · have e13 : y8 = 13 := by omega
            subst e13
            have next : okF S o i is b t → ∀ y4 : Int, y4 = (if is = 0 then op S o (i + 1) else 0) → B_X12_fits_135 V o is b t (B_X12_fits_11 V o is b t Q n) y4 (S.1 o 26 - 1 - (i : Int)) S Q := by
              intro hok y4 ey
              unfold B_X12_fits_135
              refine ⟨by omega, ?_⟩
              have := ih (i + 1) (by omega) (by omega) (by omega) (fun j hj' => by
                by_cases e : j = i
                · subst e; exact hok
                · exact hj j (by omega))
              rw [← ey] at this
              rw [show S.1 o 26 - 1 - (i : Int) + -1 = S.1 o 26 - 1 - ((i + 1 : Nat) : Int) by omega]
              exact this
            refine ⟨fun g5 => next ⟨hr, fun q => absurd q g5⟩ _ (by simp only [op, if_neg g5]; split <;> omega), fun g5 => ⟨fun g6 => next ⟨hr, fun _ q => absurd q g6⟩ _ (by rw [if_neg g6, if_neg g6]), fun g6 => ?_⟩⟩
            rw [if_pos g6]
            refine ⟨by omega, fun g7 => next ⟨hr, fun _ _ q => absurd (by omega) g7⟩ _ (by rw [if_pos g6]; simp only [op, if_pos g5]), fun g7 => ⟨fun g8 => next ⟨hr, fun _ _ _ => g8⟩ _ (by rw [if_pos g6]; simp only [op, if_pos g5]), fun g8 => h0 i hlt i40 (fun q => g8 (q.2 g5 g6 (by omega)))⟩⟩
          · unfold B_X12_fits_92
            exact ⟨by omega, ik _ (by omega) (by omega) (by omega) (fun r b1 b2 b3 b4 => hr r b1 (by omega) b3 b4)⟩
          · refine p_asked ⟨a1, by omega⟩ (fun hd => ?_) (fun hd => ?_)
            · refine ⟨fun g5 => ?_, fun g5 => h0 i hlt i40 (fun q => g5 (q.1 y8 a1 (by omega) g4 hd))⟩
              unfold B_X12_fits_92
              refine ⟨by omega, ik _ (by omega) (by omega) (by omega) (fun r b1 b2 b3 b4 => ?_)⟩
              by_cases e : r = y8
              · subst e; exact g5
              · exact hr r b1 (by omega) b3 b4
            · refine ⟨fun g5 => ?_, fun g5 => absurd r2 g5⟩
              unfold B_X12_fits_92
              refine ⟨by omega, ik _ (by omega) (by omega) (by omega) (fun r b1 b2 b3 b4 => ?_)⟩
              by_cases e : r = y8
              · subst e; exact absurd b4 hd
              · exact hr r b1 (by omega) b3 b4
      exact ⟨14, inner 14 0 (by omega) (by omega) (by omega) (fun r b1 b2 => by omega)⟩
  refine ⟨by omega, 41, ?_⟩
  have := outer 41 0 (by omega) (by omega) (by omega) (fun j hj => by omega)
  simpa [op] using this

/-! ===== PURE PART: bytes; the reference's findOldest ===== -/
theorem b8 {a : Int} (h0 : 0 ≤ a) (h1 : a < 256) : (Int32.ofInt a).toBitVec.toNat = a.toNat := by
  rw [Int32.toBitVec_ofInt, BitVec.toNat_ofInt]
  omega
theorem ti_n {x : Int32} (h : x.toBitVec.toNat < 256) : x.toInt = (x.toBitVec.toNat : Int) := by
  show x.toBitVec.toInt = _
  rw [BitVec.toInt_eq_toNat_of_lt (by omega)]
theorem and_b {a b : Int} (h0 : 0 ≤ a) (h1 : a < 256) : 0 ≤ bAnd a b ∧ bAnd a b < 256 := by
  have e : (Int32.ofInt a &&& Int32.ofInt b).toBitVec = (Int32.ofInt a).toBitVec &&& (Int32.ofInt b).toBitVec := rfl
  have l : (Int32.ofInt a &&& Int32.ofInt b).toBitVec.toNat ≤ a.toNat := by
    rw [e, BitVec.toNat_and, ← b8 h0 h1]
    exact Nat.and_le_left
  unfold bAnd
  rw [ti_n (by omega)]
  omega
theorem or_b {a b : Int} (h0 : 0 ≤ a) (h1 : a < 256) (g0 : 0 ≤ b) (g1 : b < 256) : 0 ≤ bOr a b ∧ bOr a b < 256 := by
  have e : (Int32.ofInt a ||| Int32.ofInt b).toBitVec = (Int32.ofInt a).toBitVec ||| (Int32.ofInt b).toBitVec := rfl
  have l : (Int32.ofInt a ||| Int32.ofInt b).toBitVec.toNat < 2 ^ 8 := by
    rw [e, BitVec.toNat_or, b8 h0 h1, b8 g0 g1]
    exact Nat.or_lt_two_pow (by omega) (by omega)
  unfold bOr
  rw [ti_n (by omega)]
  omega
theorem by_all : ∀ v : Fin 256, bAnd (v.val : Int) 255 = (v.val : Int) ∧ bAnd (v.val : Int) (bXor 255 (-1)) = 0 ∧ bOr 0 (v.val : Int) = (v.val : Int) := by decide +kernel
theorem by_e {x : Int} (h0 : 0 ≤ x) (h1 : x ≤ 255) : bAnd x 255 = x ∧ bAnd x (bXor 255 (-1)) = 0 ∧ bOr 0 x = x := by
  have := by_all ⟨x.toNat, by omega⟩
  rwa [show ((⟨x.toNat, by omega⟩ : Fin 256).val : Int) = x by simp; omega] at this
/-- a whole byte is written -/
theorem by_w {x v : Int} (h0 : 0 ≤ x) (h1 : x ≤ 255) (g0 : 0 ≤ v) (g1 : v ≤ 255) : bOr (bAnd x (bXor 255 (-1))) (bAnd v 255) = v := by
  rw [(by_e h0 h1).2.1, (by_e g0 g1).1, (by_e g0 g1).2.2]
theorem by_m {x v m : Int} (h0 : 0 ≤ x) (h1 : x ≤ 255) (g0 : 0 ≤ v) (g1 : v ≤ 255) : 0 ≤ bOr (bAnd x (bXor m (-1))) (bAnd v m) ∧ bOr (bAnd x (bXor m (-1))) (bAnd v m) ≤ 255 := by
  have a := and_b (a := x) (b := bXor m (-1)) h0 (by omega)
  have b := and_b (a := v) (b := m) g0 (by omega)
  have := or_b a.1 a.2 b.1 b.2
  omega
/-- the first of those from i on, d of them, that waits and is no fence -/
def foN (R : Rm) : Nat → Nat → Int
  | _, 0 => -1
  | i, d + 1 => if R 10 i = 0 ∧ ¬ R 4 i = 4 then (i : Int) else foN R (i + 1) d
def foR (R : Rm) : Int := foN R 0 (nA_ R)
def fdR (R : Rm) : Rm := uR (uR R 0 25 (if foR R = R 0 24 then R 0 25 else 0)) 0 24 (foR R)
theorem foN_p {R : Rm} : ∀ (d i : Nat), (foN R i d = -1 ∧ ∀ j, i ≤ j → j < i + d → ¬ (R 10 j = 0 ∧ ¬ R 4 j = 4)) ∨ ∃ j : Nat, foN R i d = (j : Int) ∧ i ≤ j ∧ j < i + d ∧ (R 10 j = 0 ∧ ¬ R 4 j = 4) ∧ ∀ j', i ≤ j' → j' < j → ¬ (R 10 j' = 0 ∧ ¬ R 4 j' = 4)
  | 0, i => Or.inl ⟨rfl, fun j h1 h2 => by omega⟩
  | d + 1, i => by
    unfold foN
    by_cases q : R 10 i = 0 ∧ ¬ R 4 i = 4
    · rw [if_pos q]
      exact Or.inr ⟨i, rfl, by omega, by omega, q, fun j' h1 h2 => by omega⟩
    · rw [if_neg q]
      rcases foN_p d (i + 1) with ⟨a, b⟩ | ⟨j, a, b1, b2, b3, b4⟩
      · refine Or.inl ⟨a, fun j h1 h2 => ?_⟩
        by_cases e : j = i
        · rw [e]; exact q
        · exact b j (by omega) (by omega)
      · refine Or.inr ⟨j, a, by omega, by omega, b3, fun j' h1 h2 => ?_⟩
        by_cases e : j' = i
        · rw [e]; exact q
        · exact b4 j' (by omega) h2
theorem foR_p {R : Rm} (hr : 0 ≤ R 0 13) : (foR R = -1 ∧ ∀ k, ¬ pw R k) ∨ ∃ k : Nat, foR R = (k : Int) ∧ pw R k ∧ ∀ j, j < k → ¬ pw R j := by
  have hn : ∀ i : Nat, i < nA_ R ↔ (i : Int) < R 0 13 := fun i => by unfold nA_; omega
  unfold foR
  rcases foN_p (R := R) (nA_ R) 0 with ⟨a, b⟩ | ⟨j, a, b1, b2, b3, b4⟩
  · exact Or.inl ⟨a, fun k hk => b k (by omega) (by have := (hn k).mpr hk.1.1; omega) ⟨hk.1.2, hk.2⟩⟩
  · exact Or.inr ⟨j, a, ⟨⟨(hn j).mp (by omega), b3.1⟩, b3.2⟩, fun k hk g => b4 k (by omega) hk ⟨g.1.2, g.2⟩⟩
def fD (q : Nat) (S S' : Me) : Prop := S'.2 = S.2 ∧ ∀ a k, ¬ (a = q ∧ (k = 24 ∨ k = 25)) → S'.1 a k = S.1 a k
theorem p_findOldest {V : Vt} {q : Nat} {S : Me} {Q : Me → Prop} (hX : fX12 V q) (hr : 0 ≤ rf q S 0 13 ∧ rf q S 0 13 ≤ 400) (k : ∀ S', fD q S S' → rf q S' = fdR (rf q S) → Q S') : PT_X12_findOldest V q S Q := by
  have key : ∀ (fu i : Nat), i < fu → i ≤ nA_ (rf q S) → B_X12_findOldest_9 V q Q fu (foN (rf q S) i (nA_ (rf q S) - i)) ((i : Int) - 1) S := by
    intro fu
    induction fu with
    | zero => intro i a; omega
    | succ fu ih =>
      intro i hf hi
      have hn4 : nA_ (rf q S) ≤ 400 := by unfold nA_; omega
      unfold B_X12_findOldest_9
      refine ⟨fun z => ?_, fun z => ?_⟩
      · have e0 : i = 0 := by omega
        subst e0
        rw [rf0 24 (by decide), rf0 25 (by decide)]
        have ef : foN (rf q S) 0 (nA_ (rf q S) - 0) = foR (rf q S) := rfl
        rw [ef]
        have fin : ∀ w : Int, w = (if foR (rf q S) = rf q S 0 24 then rf q S 0 25 else 0) → B_X12_findOldest_61 V q (foR (rf q S)) (some q) w S Q := by
          intro w hw
          refine ⟨q, rfl, hX, fun S2 e2 S3 e3 => k S3 ⟨by rw [e3, sI_2, e2, sI_2], fun a b h1 => by rw [e3, sI_ne (by omega), e2, sI_ne (by omega)]⟩ ?_⟩
          rw [e3, rf_w0 (by unfold scr; omega), e2, rf_w0 (by unfold scr; omega), hw]
          rfl
        exact ⟨fun w => fin 0 (by rw [if_neg w]), fun w => fin _ (by rw [if_pos w])⟩
      · obtain ⟨j, rfl⟩ : ∃ j, i = j + 1 := ⟨i - 1, by omega⟩
        have ej : ((j + 1 : Nat) : Int) - 1 = (j : Int) := by omega
        rw [ej, tn, rfa 10 j (by decide), rfa 4 j (by decide)]
        have ed : nA_ (rf q S) - j = (nA_ (rf q S) - (j + 1)) + 1 := by omega
        have nx : ∀ w : Int, w = foN (rf q S) j (nA_ (rf q S) - j) → B_X12_findOldest_37 V q (B_X12_findOldest_9 V q Q fu) (j : Int) w S Q := by
          intro w hw
          refine ⟨by unfold rng; omega, ?_⟩
          rw [hw]
          exact ih j (by omega) (by omega)
        have e1 : ¬ (rf q S 10 j = 0 ∧ ¬ rf q S 4 j = 4) → foN (rf q S) (j + 1) (nA_ (rf q S) - (j + 1)) = foN (rf q S) j (nA_ (rf q S) - j) := by
          intro w
          rw [ed, foN, if_neg w]
        refine ⟨by omega, fun w => nx _ (e1 (fun g => w g.1)), fun w => ⟨by omega, fun w4 => nx _ (e1 (fun g => g.2 w4)), fun w4 => nx _ ?_⟩⟩
        rw [ed, foN, if_pos ⟨w, w4⟩]
  refine ⟨?_, nA_ (rf q S) + 1, ?_⟩
  · rw [rf0 13 (by decide)]; unfold rng; omega
  · have := key (nA_ (rf q S) + 1) (nA_ (rf q S)) (by omega) (by omega)
    rw [Nat.sub_self] at this
    rw [rf0 13 (by decide), show rf q S 0 13 = (nA_ (rf q S) : Int) by unfold nA_; omega]
    exact this

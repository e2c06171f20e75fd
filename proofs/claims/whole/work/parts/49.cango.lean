/-! ===== PURE PART: canGo of both ===== -/
def stR (R : Rm) (is b : Int) : Prop := (is = 4 → ∀ x, x < 4 → R 2 x < 0) ∧ (is = 0 → R 2 b.toNat < 0) ∧ (¬ is = 4 → ¬ is = 0 → 0 ≤ R 2 b.toNat)
def ftR (R : Rm) (is b t : Int) : Prop := ∀ i, i < nR_ R → (∀ r : Int, 0 ≤ r → r < 13 → r ≠ 10 → hD r (whR R i) (bkR R i) is b → R 1 r.toNat ≤ t - tkR R i) ∧ (whR R i = 0 → is = 0 → opn (whR R) i = 3 → R 1 10 ≤ t - tkR R i)
theorem hD_4 {r was wb b b' : Int} : hD r was wb 4 b ↔ hD r was wb 4 b' := by
  unfold hD
  constructor
  · intro h
    rcases h with h | h | h | h | h | h | h | h | h | h | h | h
    · exact absurd h.2.1 (by decide)
    · exact absurd h.2.1 (by decide)
    · exact absurd h.2.1 (by decide)
    · exact absurd h.2.1 (by decide)
    · exact absurd h.2.1 (by decide)
    · exact absurd h.2.1 (by decide)
    · exact absurd h.2.1 (by decide)
    · exact absurd h.2.1 (by decide)
    · exact absurd h.2.1 (by decide)
    · exact absurd h.2.1 (by decide)
    · exact Or.inr (Or.inr (Or.inr (Or.inr (Or.inr (Or.inr (Or.inr (Or.inr (Or.inr (Or.inr (Or.inl h))))))))))
    · exact Or.inr (Or.inr (Or.inr (Or.inr (Or.inr (Or.inr (Or.inr (Or.inr (Or.inr (Or.inr (Or.inr h))))))))))
  · intro h
    rcases h with h | h | h | h | h | h | h | h | h | h | h | h
    · exact absurd h.2.1 (by decide)
    · exact absurd h.2.1 (by decide)
    · exact absurd h.2.1 (by decide)
    · exact absurd h.2.1 (by decide)
    · exact absurd h.2.1 (by decide)
    · exact absurd h.2.1 (by decide)
    · exact absurd h.2.1 (by decide)
    · exact absurd h.2.1 (by decide)
    · exact absurd h.2.1 (by decide)
    · exact absurd h.2.1 (by decide)
    · exact Or.inr (Or.inr (Or.inr (Or.inr (Or.inr (Or.inr (Or.inr (Or.inr (Or.inr (Or.inr (Or.inl h))))))))))
    · exact Or.inr (Or.inr (Or.inr (Or.inr (Or.inr (Or.inr (Or.inr (Or.inr (Or.inr (Or.inr (Or.inr h))))))))))
theorem ftR_4 {R : Rm} {b b' t : Int} (h : ftR R 4 b t) : ftR R 4 b' t := fun i hi => ⟨fun r r0 r1 r2 g => (h i hi).1 r r0 r1 r2 (hD_4.mp g), fun g e => absurd e (by decide)⟩
theorem nR_i {R : Rm} (h : 0 ≤ R 0 26) (i : Nat) : i < nR_ R ↔ (i : Int) < R 0 26 ∧ i < 40 := by
  unfold nR_
  split <;> omega
theorem en_e {q : Nat} {S : Me} (i : Nat) : en S q i = eR (rf q S) i := by
  unfold en eR
  rw [rf0 26 (by decide)]
theorem op_e {q : Nat} {S : Me} : ∀ i : Nat, op S q i = opn (whR (rf q S)) i
  | 0 => rfl
  | i + 1 => by
    simp only [op, opn]
    rw [op_e i, en_e, rfa 14 _ (by decide)]
    rfl
theorem p_fitsR {V : Vt} {q : Nat} {S : Me} {Q : Int → Me → Prop} {is b t : Int} (hg : rG (rf q S)) (hn : 0 ≤ rf q S 0 26 ∧ rf q S 0 26 ≤ 1000000) (ht : rf q S 0 6 ≤ t ∧ t ≤ 1000000) (h1 : ftR (rf q S) is b t → Q 1 S) (h0 : ¬ ftR (rf q S) is b t → Q 0 S) : PT_X12_fits V q is b t S Q := by
  have ok : ∀ i, okF S q i is b t ↔ ((∀ r : Int, 0 ≤ r → r < 13 → r ≠ 10 → hD r (whR (rf q S) i) (bkR (rf q S) i) is b → rf q S 1 r.toNat ≤ t - tkR (rf q S) i) ∧ (whR (rf q S) i = 0 → is = 0 → opn (whR (rf q S)) i = 3 → rf q S 1 10 ≤ t - tkR (rf q S) i)) := by
    intro i
    unfold okF ok13
    rw [op_e, en_e, rfa 14 _ (by decide), rfa 15 _ (by decide), rfa 13 _ (by decide), rfa 1 10 (by decide)]
    constructor
    · rintro ⟨a, b⟩
      refine ⟨fun r r0 r1 r2 g => ?_, b⟩
      have := a r r0 r1 r2 g
      rw [rfa 1 _ (by decide)] at this
      exact this
    · rintro ⟨a, b⟩
      refine ⟨fun r r0 r1 r2 g => ?_, b⟩
      rw [rfa 1 _ (by decide)]
      exact a r r0 r1 r2 g
  refine p_fits ?_ ?_ ?_ ?_
  · rw [rf0 26 (by decide)]; exact hn
  · rw [rf0 26 (by decide)]
    intro i i1 i2
    have := (hg i ((nR_i hn.1 i).mpr ⟨i1, i2⟩)).2.2
    rw [en_e, rfa 13 _ (by decide)]
    have e : tkR (rf q S) i = rf q S 13 (eR (rf q S) i) := rfl
    rw [← e]
    unfold rng
    omega
  · rw [rf0 26 (by decide)]
    intro h
    refine h1 (fun i hi => ?_)
    obtain ⟨i1, i2⟩ := (nR_i hn.1 i).mp hi
    exact (ok i).mp (h i i1 i2)
  · rw [rf0 26 (by decide)]
    intro i i1 i2 h
    exact h0 (fun z => h ((ok i).mpr (z i ((nR_i hn.1 i).mpr ⟨i1, i2⟩))))
theorem p_stands {V : Vt} {q : Nat} {S : Me} {Q : Int → Me → Prop} {is b : Int} (hb : ¬ is = 4 → 0 ≤ b ∧ b < 4) (h1 : stR (rf q S) is b → Q 1 S) (h0 : ¬ stR (rf q S) is b → Q 0 S) : PT_X12_stands V q is b S Q := by
  unfold PT_X12_stands PT_X12_allShut
  rw [rfa 2 _ (by decide), rfa 2 _ (by decide), rfa 2 _ (by decide), rfa 2 _ (by decide), rfa 2 _ (by decide)]
  refine ⟨fun n4 => ⟨fun n0 => ⟨hb n4, fun z => h0 (fun g => by have := g.2.2 n4 n0; omega), fun z => h1 ⟨fun e => absurd e n4, fun e => absurd e n0, fun _ _ => by omega⟩⟩, fun e0 => ⟨hb n4, fun z => h0 (fun g => by have := g.2.1 e0; omega), fun z => h1 ⟨fun e => absurd e n4, fun _ => by omega, fun _ e => absurd e0 e⟩⟩⟩, fun e4 => ?_⟩
  refine ⟨fun z => ⟨Or.inl rfl, h0 (fun g => by have := g.1 e4 0 (by decide); have e : Int.toNat 0 = 0 := rfl; rw [e] at z; omega)⟩, fun z0 => ⟨fun z => ⟨Or.inl rfl, h0 (fun g => by have := g.1 e4 1 (by decide); have e : Int.toNat 1 = 1 := rfl; rw [e] at z; omega)⟩, fun z1 => ⟨fun z => ⟨Or.inl rfl, h0 (fun g => by have := g.1 e4 2 (by decide); have e : Int.toNat 2 = 2 := rfl; rw [e] at z; omega)⟩, fun z2 => ⟨fun z => ⟨Or.inl rfl, h0 (fun g => by have := g.1 e4 3 (by decide); have e : Int.toNat 3 = 3 := rfl; rw [e] at z; omega)⟩, fun z3 => ⟨Or.inr rfl, h1 ⟨fun _ x hx => ?_, fun e => by omega, fun e => absurd e4 e⟩⟩⟩⟩⟩⟩
  have e : Int.toNat 0 = 0 ∧ Int.toNat 1 = 1 ∧ Int.toNat 2 = 2 ∧ Int.toNat 3 = 3 := ⟨rfl, rfl, rfl, rfl⟩
  rw [e.1] at z0
  rw [e.2.1] at z1
  rw [e.2.2.1] at z2
  rw [e.2.2.2] at z3
  have hx' : x = 0 ∨ x = 1 ∨ x = 2 ∨ x = 3 := by omega
  rcases hx' with rfl | rfl | rfl | rfl <;> omega
theorem p_canGoR {V : Vt} {q : Nat} {S : Me} {Q : Int → Me → Prop} {is b : Int} (hb : ¬ is = 4 → 0 ≤ b ∧ b < 4) (hg : rG (rf q S)) (hn : 0 ≤ rf q S 0 26 ∧ rf q S 0 26 ≤ 1000000) (ht : rf q S 0 6 ≤ 1000000) (h1 : stR (rf q S) is b ∧ ftR (rf q S) is b (rf q S 0 6) → Q 1 S) (h0 : ¬ (stR (rf q S) is b ∧ ftR (rf q S) is b (rf q S 0 6)) → Q 0 S) : PT_X12_canGo V q is b S Q := by
  unfold PT_X12_canGo
  refine p_stands hb (fun g => ⟨fun e => absurd e (by decide), fun _ => ?_⟩) (fun g => ⟨fun _ => h0 (fun z => g z.1), fun e => absurd rfl e⟩)
  rw [rf0 6 (by decide)]
  exact p_fitsR hg hn ⟨Int.le_refl _, ht⟩ (fun g2 => ⟨fun e => absurd e (by decide), fun _ => h1 ⟨g, g2⟩⟩) (fun g2 => ⟨fun _ => h0 (fun z => g2 z.2), fun e => absurd rfl e⟩)
theorem p_allows {o : Nat} {V : Vt} {S : Me} {R : Rm} {Q : Int → Me → Prop} {is b : Int} (hb : ¬ is = 4 → 0 ≤ b ∧ b < 4) (hM : jM o S R) (hR : rM R) (h1 : stR R is b → Q 1 S) (h0 : ¬ stR R is b → Q 0 S) : PT_X4_allows V (o + 25) is b S Q := by
  have hr : ∀ x, x < 4 → (S.1 (o + 25 + 2) x = -2 ↔ R 2 x < 0) := by
    intro x hx
    rw [hM.2 x hx]
    have := hR.2 x hx
    omega
  unfold PT_X4_allows
  refine ⟨fun n4 => ⟨hb n4, fun z => ?_, fun z => ?_⟩, fun e4 => ?_⟩
  · have z : ¬ R 2 b.toNat < 0 := fun g => z ((hr _ (by have := hb n4; omega)).mpr g)
    exact ⟨fun n0 => ⟨fun e => absurd rfl e, fun _ => h1 ⟨fun e => absurd e n4, fun e => absurd e n0, fun _ _ => by omega⟩⟩, fun e0 => ⟨Or.inl rfl, h0 (fun g => z (g.2.1 e0))⟩⟩
  · have z : R 2 b.toNat < 0 := (hr _ (by have := hb n4; omega)).mp z
    exact ⟨fun n0 => ⟨fun _ => h0 (fun g => by have := g.2.2 n4 n0; omega), fun e => absurd e (by decide)⟩, fun e0 => ⟨Or.inr rfl, h1 ⟨fun e => absurd e n4, fun _ => z, fun _ e => absurd e0 e⟩⟩⟩
  · have key : ∀ (fu i : Nat), 4 - i < fu → i ≤ 4 → (∀ x, x < i → R 2 x < 0) → B_X4_areAllShut_2 V (o + 25) (fun t9 S8 => (t9 = 0 ∨ t9 = 1) ∧ Q t9 S8) fu (i : Int) S := by
      intro fu
      induction fu with
      | zero => intro i a; omega
      | succ fu ih =>
        intro i hf hi hx
        unfold B_X4_areAllShut_2
        rw [tn]
        refine ⟨fun z => ⟨Or.inr rfl, h1 ⟨fun _ x h => hx x (by omega), fun e => by omega, fun e => absurd e4 e⟩⟩, fun z => ⟨by omega, fun g => ⟨by unfold rng; omega, ih (i + 1) (by omega) (by omega) (fun x h => ?_)⟩, fun g => ⟨Or.inl rfl, h0 (fun w => g ((hr i (by omega)).mpr (w.1 e4 i (by omega))))⟩⟩⟩
        by_cases e : x = i
        · subst e; exact (hr x (by omega)).mp g
        · exact hx x (by omega)
    exact ⟨5, key 5 0 (by omega) (by omega) (fun x h => by omega)⟩
/-- all rules let t, by Past and by the ring -/
theorem lt_iff {o : Nat} {S : Me} {R : Rm} {is b t : Int} (hP : jP o S R) (hS : jS o S R) (hs : rS R) (h6 : 1 ≤ R 0 6) (ht : R 0 6 ≤ t) (s0 : 0 ≤ is) (s1 : is < 5) (hb : is < 4 → 0 ≤ b ∧ b < 4) : (1 ≤ t ∧ ∀ r : Int, 0 ≤ r → r < 13 → cF S (o + 2) r is b + S.1 (o + 1) r.toNat ≤ t) ↔ ftR R is b t := by
  have e := fit_iff (tm := R 1) (t := t) (is := is) (b := b) hP.1 hP.2.1 (cF_10 S (o + 2) is b) hs.1 (by omega) (by omega) s0 s1 hb
  unfold ftR
  rw [← e]
  constructor
  · rintro ⟨-, h⟩ r r0 r1
    have := h r r0 r1
    rw [hS.2 _ (by omega)] at this
    exact this
  · intro h
    refine ⟨by omega, fun r r0 r1 => ?_⟩
    rw [hS.2 _ (by omega)]
    exact h r r0 r1
theorem p_leastC {o : Nat} {V : Vt} {S : Me} {R : Rm} {Q : Int → Me → Prop} {is b n : Int} (hV : jV o V) (hP : jP o S R) (hS : jS o S R) (hG : rG R) (hs : rS R) (hg : gB o S R n) (s0 : 0 ≤ is) (s1 : is < 5) (hb : is < 4 → 0 ≤ b ∧ b < 4) (h : ∀ m : Int, (∀ t, R 0 6 ≤ t → (m ≤ t ↔ ftR R is b t)) → Q m S) : PT_X5_leastTick V (o + 2) (some (o + 1)) is b S Q := by
  obtain ⟨⟨g1, g2, g3⟩, -, -, -, g10, -⟩ := hg
  obtain ⟨p1, p2, p3, l1, l2⟩ := hP
  refine p_leastTick hV.1.2.1.2.2.1 hV.1.2.1.2.2.2 ⟨s0, s1⟩ hb (by rw [p3]; exact g10.1) (fun r r0 r1 => ?_) (fun m hm => h m (fun t ht => ?_))
  · have ht := hs.1 r.toNat (by omega)
    rw [hS.2 _ (by omega)]
    have hc : -1000 ≤ cF S (o + 2) r is b ∧ cF S (o + 2) r is b ≤ R 0 6 := by
      by_cases e : r = 10
      · subst e
        rw [cF_10]
        split
        · have a := l2 3 (by omega) (by omega)
          refine ⟨a, ?_⟩
          rcases (p2 3 (by omega) (by omega)).2 with z | ⟨i, i1, -, -, i2⟩
          · omega
          · have := (hG i i1).2.2.2
            omega
        · omega
      · refine ⟨l1 r is b r0 r1 e s0 s1 hb, ?_⟩
        rcases (p1 r is b r0 r1 e s0 s1 hb).2 with z | ⟨i, i1, -, i2⟩
        · omega
        · have := (hG i i1).2.2.2
          omega
    unfold rng
    omega
  · rw [hm t]
    exact lt_iff ⟨p1, p2, p3, l1, l2⟩ hS hs g1 ht s0 s1 hb
theorem p_canGoC {o : Nat} {V : Vt} {S : Me} {R : Rm} {Q : Int → Me → Prop} {is b n : Int} (hV : jV o V) (hP : jP o S R) (hS : jS o S R) (hG : rG R) (hs : rS R) (hg : gB o S R n) (hM : jM o S R) (hR : rM R) (s0 : 0 ≤ is) (s1 : is < 5) (hb : is < 4 → 0 ≤ b ∧ b < 4) (h1 : stR R is b ∧ ftR R is b (R 0 6) → Q 1 S) (h0 : ¬ (stR R is b ∧ ftR R is b (R 0 6)) → Q 0 S) : PT_X11_canGo V o is b S Q := by
  unfold PT_X11_canGo
  refine p_allows (fun e => hb (by omega)) hM hR (fun g => ⟨fun e => absurd e (by decide), fun _ => ?_⟩) (fun g => ⟨fun _ => h0 (fun z => g z.1), fun e => absurd rfl e⟩)
  refine p_leastC hV hP hS hG hs hg s0 s1 hb (fun m hm => ?_)
  rw [hS.1.1]
  have hm := hm (R 0 6) (Int.le_refl _)
  exact ⟨fun z => h0 (fun w => by have := hm.mpr w.2; omega), fun z => h1 ⟨g, hm.mp (by omega)⟩⟩

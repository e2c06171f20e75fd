/-! ===== PURE PART: a new cell; a new Ask ===== -/
theorem jI_V {o : Nat} {V V' : Vt} {S S' : Me} {c : Nat → Nat} {R : Rm} (e : exV V V') (h1 : ∀ a, a < V.1 → S'.1 a = S.1 a ∧ S'.2 a = S.2 a) (h : jI o V S c R) : jI o V' S' c R := by
  obtain ⟨hV, hS, hP, hG, hL, hrL, hM, hrM, hA, hrA, hrO, hQ, hW, hH, hs⟩ := h
  obtain ⟨v1, v2, v3, v4, v5⟩ := hV
  have m1 : ∀ a, a < o + 73 → S'.1 a = S.1 a := fun a ha => (h1 a (by omega)).1
  have m2 : ∀ a, a < o + 73 → S'.2 a = S.2 a := fun a ha => (h1 a (by omega)).2
  refine ⟨⟨fX11_x e v1, fX12_x e v2, by have := e.1; omega, e.ty (by omega) v4, fun d hd => e.ty (by omega) (v5 d hd)⟩, ?_, jP_c (fun a a1 a2 => m1 a (by omega)) hP, hG, ?_, hrL, ?_, hrM, fun i hi => ?_, hrA, hrO, ?_, ?_, ?_, hs⟩
  · unfold jS
    rw [m1 o (by omega), m1 (o + 1) (by omega)]; exact hS
  · unfold jL
    rw [m1 (o + 10) (by omega), m1 (o + 10 + 1) (by omega), m1 (o + 10 + 2) (by omega), m1 (o + 10 + 3) (by omega), m1 (o + 10 + 4) (by omega), m1 (o + 10 + 5) (by omega), m1 (o + 10 + 6) (by omega)]; exact hL
  · unfold jM
    rw [m1 (o + 25 + 1) (by omega), m1 (o + 25 + 2) (by omega)]; exact hM
  · have g := hA i hi
    have hc := g.1.2.2.1
    rw [(h1 (c i) hc).1, m2 (o + 28 + 1) (by omega), (e.2 (c i) hc).1]
    exact ⟨⟨g.1.1, g.1.2.1, e.lt hc, g.1.2.2.2⟩, g.2⟩
  · exact jQ_S hQ (m1 _ (by omega)) (m1 _ (by omega)) (m2 _ (by omega)) (fun i hi => by rw [(h1 (c i) (hA i hi).1.2.2.1).2])
  · unfold jW
    rw [m1 (o + 28 + 4) (by omega)]; exact hW
  · obtain ⟨g1, g2, g3⟩ := hH
    have ld : ∀ d, d < 8 → S'.2 (o + 34 + d) = S.2 (o + 34 + d) := fun d hd => m2 _ (by omega)
    refine ⟨by rw [m2 (o + 33) (by omega)]; exact g1, fun d hd => ?_, fun d d' e hd hd' => by rw [ld d hd, ld d' hd']; exact g3 d d' e hd hd'⟩
    have g := g2 d hd
    rw [ld d hd]
    rcases g with g | g | ⟨g1, g2, w, g3, g4, g5, g6, g7, g8, g9, g10⟩
    · exact Or.inl g
    · exact Or.inr (Or.inl g)
    · refine Or.inr (Or.inr ⟨g1, g2, w, g3, g4, e.lt g5, e.ty g5 g6, by rw [(e.2 w g5).2.1]; exact g7, g8, by rw [m1 _ (by omega)]; exact g9, fun i hi => ?_⟩)
      rw [(h1 w g5).1]
      exact g10 i hi
theorem jT_V {o : Nat} {V V' : Vt} {S S' : Me} {c : Nat → Nat} {R : Rm} {n : Int} (e : exV V V') (h1 : ∀ a, a < V.1 → S'.1 a = S.1 a ∧ S'.2 a = S.2 a) (h : jT o V S c R n) : jT o V' S' c R n := ⟨jI_V e h1 h.1, gB_c (h1 _ (by have := h.1.1.2.2.1; omega)).1 h.2.1, h.2.2⟩
/-- the reference's memory with one more Ask -/
def adR (R : Rm) (kd who a v m : Int) : Rm := fdR (uR (uR (uR (uR (uR (uR (uR (uR (uR (uR R 4 (R 0 13).toNat kd) 5 (R 0 13).toNat who) 6 (R 0 13).toNat a) 7 (R 0 13).toNat v) 8 (R 0 13).toNat m) 9 (R 0 13).toNat (R 0 6)) 10 (R 0 13).toNat 0) 11 (R 0 13).toNat (-2)) 0 13 (R 0 13 + 1)) 0 14 (R 0 14 + 1))
/-- what adR is, place by place -/
def adF (R R' : Rm) (kd who a v m : Int) : Prop := (∀ b, ¬ b = 0 → (b < 4 ∨ 11 < b) → R' b = R b) ∧ (∀ j, j ≠ 13 → j ≠ 14 → j ≠ 24 → j ≠ 25 → R' 0 j = R 0 j) ∧ (R' 0 13 = R 0 13 + 1 ∧ R' 0 14 = R 0 14 + 1) ∧ (∀ j, R' 4 j = if j = (R 0 13).toNat then kd else R 4 j) ∧ (∀ j, R' 5 j = if j = (R 0 13).toNat then who else R 5 j) ∧ (∀ j, R' 6 j = if j = (R 0 13).toNat then a else R 6 j) ∧ (∀ j, R' 7 j = if j = (R 0 13).toNat then v else R 7 j) ∧ (∀ j, R' 8 j = if j = (R 0 13).toNat then m else R 8 j) ∧ (∀ j, R' 9 j = if j = (R 0 13).toNat then R 0 6 else R 9 j) ∧ (∀ j, R' 10 j = if j = (R 0 13).toNat then 0 else R 10 j) ∧ (∀ j, R' 11 j = if j = (R 0 13).toNat then -2 else R 11 j) ∧ (R' 0 24 = foR R' ∧ R' 0 25 = if foR R' = R 0 24 then R 0 25 else 0)
theorem adF_adR {R : Rm} {kd who a v m : Int} : adF R (adR R kd who a v m) kd who a v m := by
  have hfo : foR (uR (uR (uR (uR (uR (uR (uR (uR (uR (uR R 4 (R 0 13).toNat kd) 5 (R 0 13).toNat who) 6 (R 0 13).toNat a) 7 (R 0 13).toNat v) 8 (R 0 13).toNat m) 9 (R 0 13).toNat (R 0 6)) 10 (R 0 13).toNat 0) 11 (R 0 13).toNat (-2)) 0 13 (R 0 13 + 1)) 0 14 (R 0 14 + 1)) = foR (adR R kd who a v m) := by
    unfold adR
    refine (foR_c ?_ ?_ ?_).symm
    · rw [fdR_o (by omega)]
    · funext k; rw [fdR_o (by omega)]
    · funext k; rw [fdR_o (by omega)]
  have sm : ∀ (x : Nat) (b c : Nat) (y z : Int), (if b = b ∧ x = c then y else z) = if x = c then y else z := by
    intro x b c y z
    by_cases h : x = c
    · rw [if_pos ⟨rfl, h⟩, if_pos h]
    · rw [if_neg (fun w => h w.2), if_neg h]
  refine ⟨fun b b0 hb => funext fun j => ?_, fun j j1 j2 j3 j4 => ?_, ⟨?_, ?_⟩, fun j => ?_, fun j => ?_, fun j => ?_, fun j => ?_, fun j => ?_, fun j => ?_, fun j => ?_, fun j => ?_, ?_, ?_⟩
  · unfold adR
    rw [fdR_o (by omega), uR_k (by omega), uR_k (by omega), uR_k (by omega), uR_k (by omega), uR_k (by omega), uR_k (by omega), uR_k (by omega), uR_k (by omega), uR_k (by omega), uR_k (by omega)]
  · unfold adR
    rw [fdR_o (by omega), uR_k (by omega), uR_k (by omega), uR_k (by omega), uR_k (by omega), uR_k (by omega), uR_k (by omega), uR_k (by omega), uR_k (by omega), uR_k (by omega), uR_k (by omega)]
  · unfold adR
    rw [fdR_o (by omega), uR_k (by omega), uR_e]
  · unfold adR
    rw [fdR_o (by omega), uR_e]
  · unfold adR
    rw [fdR_o (by omega), uR_k (by omega), uR_k (by omega), uR_k (by omega), uR_k (by omega), uR_k (by omega), uR_k (by omega), uR_k (by omega), uR_k (by omega), uR_k (by omega), uR_1, sm]
  · unfold adR
    rw [fdR_o (by omega), uR_k (by omega), uR_k (by omega), uR_k (by omega), uR_k (by omega), uR_k (by omega), uR_k (by omega), uR_k (by omega), uR_k (by omega), uR_1, sm, uR_k (by omega)]
  · unfold adR
    rw [fdR_o (by omega), uR_k (by omega), uR_k (by omega), uR_k (by omega), uR_k (by omega), uR_k (by omega), uR_k (by omega), uR_k (by omega), uR_1, sm, uR_k (by omega), uR_k (by omega)]
  · unfold adR
    rw [fdR_o (by omega), uR_k (by omega), uR_k (by omega), uR_k (by omega), uR_k (by omega), uR_k (by omega), uR_k (by omega), uR_1, sm, uR_k (by omega), uR_k (by omega), uR_k (by omega)]
  · unfold adR
    rw [fdR_o (by omega), uR_k (by omega), uR_k (by omega), uR_k (by omega), uR_k (by omega), uR_k (by omega), uR_1, sm, uR_k (by omega), uR_k (by omega), uR_k (by omega), uR_k (by omega)]
  · unfold adR
    rw [fdR_o (by omega), uR_k (by omega), uR_k (by omega), uR_k (by omega), uR_k (by omega), uR_1, sm, uR_k (by omega), uR_k (by omega), uR_k (by omega), uR_k (by omega), uR_k (by omega)]
  · unfold adR
    rw [fdR_o (by omega), uR_k (by omega), uR_k (by omega), uR_k (by omega), uR_1, sm, uR_k (by omega), uR_k (by omega), uR_k (by omega), uR_k (by omega), uR_k (by omega), uR_k (by omega)]
  · unfold adR
    rw [fdR_o (by omega), uR_k (by omega), uR_k (by omega), uR_1, sm, uR_k (by omega), uR_k (by omega), uR_k (by omega), uR_k (by omega), uR_k (by omega), uR_k (by omega), uR_k (by omega)]
  · rw [← hfo]
    unfold adR
    rw [fdR_24]
  · rw [← hfo]
    unfold adR
    rw [fdR_25, uR_k (by omega), uR_k (by omega), uR_k (by omega), uR_k (by omega), uR_k (by omega), uR_k (by omega), uR_k (by omega), uR_k (by omega), uR_k (by omega), uR_k (by omega), uR_k (by omega), uR_k (by omega), uR_k (by omega), uR_k (by omega), uR_k (by omega), uR_k (by omega), uR_k (by omega), uR_k (by omega), uR_k (by omega), uR_k (by omega)]
/-- one more at the chain's end -/
theorem Cn_add {S S' : Me} {u z n : Nat} {c c' : Nat → Nat} {w w' : Nat → Prop} (h : Cn S u c w n) (hw : ∀ i, w i → i < n) (hw' : ∀ i, w' i ↔ w i ∨ i = n) (hc : ∀ i, i < n → c' i = c i) (hcn : c' n = z) (hz : S'.2 z 8 = none) (h5 : S'.2 u 5 = some z)
    (h0 : S.2 u 5 = none → S'.2 u 4 = some z ∧ ∀ i, w i → S'.2 (c i) 8 = S.2 (c i) 8) (h1 : ∀ y, S.2 u 5 = some y → S'.2 u 4 = S.2 u 4 ∧ S'.2 y 8 = some z ∧ ∀ i, w i → c i ≠ y → S'.2 (c i) 8 = S.2 (c i) 8) : Cn S' u c' w' (n + 1) := by
  obtain ⟨n1, n2, n3⟩ := h
  have up : ∀ i r, Nx w c i r → r ≠ none → Nx w' c' i r := by
    intro i r hr hne
    rcases hr with ⟨e, -⟩ | ⟨j, e, b1, b2, b3⟩
    · exact absurd e hne
    · refine Or.inr ⟨j, by rw [hc j (hw j b2)]; exact e, b1, (hw' j).mpr (Or.inl b2), fun j' g1 g2 g3 => ?_⟩
      rcases (hw' j').mp g3 with y | y
      · exact b3 j' g1 g2 y
      · have := hw j b2; omega
  have nz : ¬ w n := fun y => by have := hw n y; omega
  rcases n3 with ⟨e5, no⟩ | ⟨l, e5, l1, l2, l3⟩
  · obtain ⟨q4, q8⟩ := h0 e5
    have no' : ∀ i, ¬ w i := fun i hi => no i (hw i hi) hi
    refine ⟨Or.inr ⟨n, by rw [q4, hcn], by omega, (hw' n).mpr (Or.inr rfl), fun j' _ g2 g3 => ?_⟩, fun i hi => ?_, Or.inr ⟨n, by rw [h5, hcn], by omega, (hw' n).mpr (Or.inr rfl), fun j' g1 g2 => by omega⟩⟩
    · rcases (hw' j').mp g3 with y | y
      · exact no' j' y
      · omega
    · rcases (hw' i).mp hi with y | y
      · exact absurd y (no' i)
      · subst y
        rw [hcn, hz]
        refine Or.inl ⟨rfl, fun j hj g => ?_⟩
        rcases (hw' j).mp g with v | v
        · exact no' j v
        · omega
  · obtain ⟨q4, q8, q9⟩ := h1 (c l) e5
    refine ⟨?_, fun i hi => ?_, Or.inr ⟨n, by rw [h5, hcn], by omega, (hw' n).mpr (Or.inr rfl), fun j' g1 g2 => by omega⟩⟩
    · rw [q4]
      refine up 0 _ n1 (fun e => ?_)
      rcases n1 with ⟨-, g⟩ | ⟨j, g, -⟩
      · exact g l (by omega) l2
      · rw [e] at g; cases g
    · rcases (hw' i).mp hi with y | y
      · have hin := hw i y
        rw [hc i hin]
        by_cases e : c i = c l
        · rw [e, q8]
          refine Or.inr ⟨n, by rw [hcn], by omega, (hw' n).mpr (Or.inr rfl), fun j' g1 g2 g3 => ?_⟩
          rcases (hw' j').mp g3 with v | v
          · -- i is the last, or is it not: its next is none or later
            have hn := n2 i y
            rcases Nat.lt_trichotomy i l with t | t | t
            · -- two of the same cell: its own next says where l is
              have hl := n2 l l2
              rw [e] at hn
              rcases hl with ⟨a1, a2⟩ | ⟨j, a1, a2, a3, a4⟩
              · rcases hn with ⟨b1, b2⟩ | ⟨j, b1, b2, b3, b4⟩
                · exact b2 l (by omega) l2
                · rw [a1] at b1; cases b1
              · exact l3 j (by omega) (hw j a3) a3
            · subst t
              exact l3 j' (by omega) g2 v
            · exact l3 i t hin y
          · omega
        · rw [q9 i y e]
          refine up (i + 1) _ (n2 i y) (fun e2 => ?_)
          rcases n2 i y with ⟨-, g⟩ | ⟨j, g, -⟩
          · rcases Nat.lt_trichotomy i l with t | t | t
            · exact g l (by omega) l2
            · subst t; exact e rfl
            · exact l3 i t hin y
          · rw [e2] at g; cases g
      · subst y
        rw [hcn, hz]
        refine Or.inl ⟨rfl, fun j hj g => ?_⟩
        rcases (hw' j).mp g with v | v
        · have := hw j v; omega
        · omega

/-! ===== PURE PART: RowBank.carryOut ===== -/
/-- what holds behind a whole tick -/
def jT (o : Nat) (V : Vt) (S : Me) (c : Nat → Nat) (R : Rm) (n : Int) : Prop := jI o V S c R ∧ gB o S R n ∧ R 0 7 < R 0 6
theorem p_carry {o : Nat} {V : Vt} {S : Me} {c : Nat → Nat} {R : Rm} {n cm bb : Int} {a : Option Nat} {Q : Me → Prop} (hI : jI o V S c R) (hg : gB o S R n) (hn : n + 1 ≤ 300000) (hcf : ChF R (R 0 7) cm bb a) (hcm : 0 ≤ cm)
    (k : ∀ S', S'.1 o 6 = R 0 6 → jT o V (sI S' o 6 (R 0 6 + 1)) c (tkF R cm bb a) (n + 1) → (∀ b, o + 33 ≤ b → b < o + 73 → S'.1 b = S.1 b) → Q S') : PT_X11_carryOut V o cm bb (a.map c) S Q := by
  have hI0 := hI
  have hg0 := hg
  obtain ⟨hV, hS, hP, hG, hL, hrL, hM, hrM, hA, hrA, hrO, hQ, hW, hH, hs⟩ := hI
  obtain ⟨g6, g7, g8, g9, g10, g26, gq, g12⟩ := hg
  have hc5 : 0 ≤ cm ∧ cm < 5 := by
    rcases hcf with ⟨e, -⟩ | ⟨e, -⟩ | ⟨e, -⟩ | ⟨x, -, -, e, -⟩
    · omega
    · omega
    · omega
    · have := cmd_b (R := R) (x := x); omega
  have hbb : cm < 4 → 0 ≤ bb ∧ bb < 4 := by
    intro h4
    rcases hcf with ⟨e, -⟩ | ⟨e, -⟩ | ⟨-, e, -⟩ | ⟨x, -, hp, -, e⟩
    · omega
    · omega
    · exact e
    · rw [e]; exact (pw_r hrA hp).2.1
  have cl : ∀ i : Nat, (i : Int) < R 0 13 → o + 73 ≤ c i := fun i hi => (hA i hi).1.2.1
  unfold PT_X11_carryOut
  rw [hS.1.1]
  refine p_remember hc5 hbb (by rw [hP.2.2.1]; omega) (fun S2 h2 => ?_)
  have z2 : ∀ b, b < o + 2 ∨ o + 9 < b → S2.1 b = S.1 b := fun b hb => h2.2.1 b (by omega)
  have v12 : S2.1 o 12 = R 0 9 := by rw [z2 o (by omega), hS.1.2.2.2.2.2.2.1]
  rw [v12]
  refine ⟨by unfold rng; omega, fun S5 e5 => ?_⟩
  have z5 : ∀ b, b ≠ o → S5.1 b = S2.1 b := fun b hb => by rw [e5, sI_na hb]
  have z52 : S5.2 = S.2 := by rw [e5, sI_2, h2.1]
  have v6 : S5.1 o 6 = R 0 6 := by rw [e5, sI_ne (by omega), z2 o (by omega), hS.1.1]
  rw [v6]
  have l7 : S5.1 (o + 10) 7 = R 0 30 := by rw [z5 _ (by omega), z2 _ (by omega), hL.1]
  refine p_logadd (ai := aI_ a) (pl := plR R cm (a.getD 0)) hV.1.2.2.2.1.2 hc5 (by rw [l7]; exact ⟨hrL.1, hrL.2.1⟩) ?_ ?_ (fun S7 h7 => ?_)
  · intro ea
    have ea : a = none := by
      cases a with
      | none => rfl
      | some x => cases ea
    subst ea
    refine ⟨?_, rfl⟩
    rcases hcf with ⟨e, -⟩ | ⟨e, -⟩ | ⟨e, -⟩ | ⟨x, e, -⟩
    · omega
    · unfold plR; rw [if_neg (by omega), if_neg (by omega)]
    · unfold plR; rw [if_neg (by omega), if_neg (by omega)]
    · cases e
  · intro z hz
    cases a with
    | none => cases hz
    | some x =>
      have hz : c x = z := Option.some.inj hz
      subst hz
      have hp : pw R x := by
        rcases hcf with ⟨-, -, e⟩ | ⟨-, -, e, -⟩ | ⟨-, -, e⟩ | ⟨y, e, hp, -⟩
        · cases e
        · cases e
        · cases e
        · cases e; exact hp
      obtain ⟨⟨a1, a2, a3, a4, a5⟩, ⟨b0, b1, b2, b3, b4, b5⟩, -⟩ := hA x hp.1.1
      have e : S5.1 (c x) = S.1 (c x) := by rw [z5 _ (by omega), z2 _ (by omega)]
      rw [e, b0, b4, b2]
      exact ⟨a4, by omega, rfl, rfl⟩
  have z72 : S7.2 = S.2 := by rw [h7.1, z52]
  have z7 : ∀ b, b ≠ o → (b < o + 2 ∨ o + 16 < b) → S7.1 b = S.1 b := fun b h1 h3 => by rw [h7.2.1 b (by omega), z5 b h1, z2 b (by omega)]
  have z70 : ∀ j, j ≠ 12 → S7.1 o j = S.1 o j := fun j hj => by rw [h7.2.1 o (by omega), e5, sI_ne (by omega), z2 o (by omega)]
  have w12 : S7.1 o 12 = R 0 9 + 1 := by rw [h7.2.1 o (by omega), e5, sI_eq]
  -- the common parts, for any end that leaves Past, log, shelves
  have com := fun (S' : Me) (R' : Rm) => com_t (S' := S') (R' := R') (ai := aI_ a) (pl := plR R cm (a.getD 0)) hI0 hg0 hc5 hbb h2 z5 h7
  have p2 : ∀ b, o + 2 ≤ b → b ≤ o + 9 → S7.1 b = S2.1 b := fun b b1 b2 => by rw [h7.2.1 b (by omega), z5 b (by omega)]
  have t6 : tkF R cm bb a 0 6 = R 0 6 + 1 := by unfold tkF; rw [uR_e]
  have tg : ∀ b j, ¬ (b = 0 ∧ j = 6) → tkF R cm bb a b j = goR R cm bb a b j := fun b j h => by unfold tkF; rw [uR_k h, if_neg (by omega)]
  have W : ∀ {b j : Nat}, (b = 0 → j ≠ 26 ∧ j ≠ 9 ∧ j ≠ 30) → (b < 13 ∨ 21 < b) → wrR R cm bb (aI_ a) (plR R cm (a.getD 0)) b j = R b j := fun h1 h2 => wrR_o h1 h2
  have oS := hS.1
  refine ⟨fun n4 => ⟨fun n1 => ⟨fun an => ?_, fun an => ⟨fun n0 => ?_, fun e0 => ?_⟩⟩, fun e1 => ?_⟩, fun e4 => ?_⟩
  · -- no Ask: only SHUT and REFRESH
    exfalso
    rcases hcf with ⟨e, -⟩ | ⟨e, -⟩ | ⟨e, -⟩ | ⟨x, e, -⟩
    · omega
    · exact n4 e
    · exact n1 e
    · subst e; cases an
  · -- READ, WRITE
    obtain ⟨x, ea, hp, ecm, ebb⟩ : ∃ x, a = some x ∧ pw R x ∧ cm = cmd R x ∧ bb = bk (R 6 x) := by
      rcases hcf with ⟨e, -⟩ | ⟨e, -⟩ | ⟨e, -⟩ | h
      · omega
      · exact absurd e n4
      · exact absurd e n1
      · exact h
    subst ea
    have hx1 := hp.1.1
    have hxn := wt_n hrA x hp.1
    have hxr := pw_r hrA hp
    obtain ⟨m1, m2, m3, m4, m5, m6, m7, m8, m9⟩ := hrA.2.2 x hx1
    have hmem := hrM.1 (R 6 x).toNat (by omega)
    have hM7 : jM o S7 R := by
      unfold jM
      rw [z7 (o + 25 + 1) (by omega) (by omega), z7 (o + 25 + 2) (by omega) (by omega)]
      exact hM
    have c7 : ∀ i : Nat, (i : Int) < R 0 13 → S7.1 (c i) = S.1 (c i) := fun i hi => z7 _ (by have := cl i hi; omega) (by have := cl i hi; omega)
    have hA7 : cA o V S7 c R := cA_S hA (fun i hi j _ => by rw [c7 i hi]) (by rw [z72])
    refine p_serve hM7 hrM hA7 hrA hp ?_
    obtain ⟨S8, e8⟩ : ∃ S8, S8 = sI (sI S7 (c x) 7 (if R 4 x = 0 ∨ R 4 x = 3 then R 3 (R 6 x).toNat else -2)) (o + 25 + 1) (R 6 x).toNat (nbR R x) := ⟨_, rfl⟩
    rw [← e8]
    have clx := cl x hx1
    have z8 : ∀ b j, ¬ (b = c x ∧ j = 7) → b ≠ o + 25 + 1 → S8.1 b j = S7.1 b j := fun b j h1 h3 => by rw [e8, sI_na h3, sI_ne (by omega)]
    have z82 : S8.2 = S.2 := by rw [e8, sI_2, sI_2, z72]
    have v86 : S8.1 o 6 = R 0 6 := by rw [z8 _ _ (by omega) (by omega), z70 6 (by decide), oS.1]
    rw [v86]
    obtain ⟨R8, e8R⟩ : ∃ R8, R8 = uR R 11 x (if R 4 x = 0 ∨ R 4 x = 3 then R 3 (R 6 x).toNat else -2) := ⟨_, rfl⟩
    have q8 : ∀ b, b ≠ 11 → R8 b = R b := fun b hb => by rw [e8R, uR_a hb]
    have q11 : ∀ j, R8 11 j = if j = x then (if R 4 x = 0 ∨ R 4 x = 3 then R 3 (R 6 x).toNat else -2) else R 11 j := fun j => by
      rw [e8R, uR_1]
      by_cases z : j = x
      · rw [if_pos ⟨rfl, z⟩, if_pos z]
      · rw [if_neg (fun y => z y.2), if_neg z]
    have wt8 : wt R8 = wt R := wt_R (by rw [q8 0 (by decide)]) (q8 10 (by decide))
    have pw8 : pw R8 = pw R := pw_R (by rw [q8 0 (by decide)]) (q8 10 (by decide)) (q8 4 (by decide))
    have nA8 : nA_ R8 = nA_ R := nA_R (by rw [q8 0 (by decide)])
    have hA8 : cA o V S8 c R8 := by
      intro i hi
      rw [q8 0 (by decide)] at hi
      obtain ⟨y1, y2, y3, y4, y5⟩ := hA7 i hi
      have cli := cl i hi
      have ec : c i = c x → i = x := fun y => cA_inj hA hrA i x ((nA_i hrA i).mpr hi) hxn y
      rw [q8 4 (by decide), q8 5 (by decide), q8 6 (by decide), q8 7 (by decide), q8 8 (by decide), q8 9 (by decide), q8 10 (by decide), q11, z8 (c i) 0 (by omega) (by omega), z8 (c i) 1 (by omega) (by omega), z8 (c i) 2 (by omega) (by omega), z8 (c i) 3 (by omega) (by omega), z8 (c i) 4 (by omega) (by omega), z8 (c i) 5 (by omega) (by omega), z8 (c i) 6 (by omega) (by omega), z8 (c i) 11 (by omega) (by omega), z8 (c i) 12 (by omega) (by omega), z82, ← z72]
      refine ⟨y1, y2, ⟨y3.1, ?_⟩, y4, y5⟩
      by_cases z : i = x
      · subst z
        rw [if_pos rfl, e8, sI_na (by omega), sI_eq]
      · rw [if_neg z, z8 (c i) 7 (fun y => z (ec y.1)) (by omega)]
        exact y3.2
    have hr8 : rA R8 := by
      unfold rA
      rw [q8 0 (by decide), nA8, wt8, q8 4 (by decide), q8 5 (by decide), q8 6 (by decide), q8 7 (by decide), q8 8 (by decide), q8 9 (by decide), q8 10 (by decide)]
      refine ⟨hrA.1, hrA.2.1, fun i hi => ?_⟩
      obtain ⟨y1, y2, y3, y4, y5, y6, y7, y8, y9⟩ := hrA.2.2 i hi
      rw [q11]
      by_cases z : i = x
      · subst z
        rw [if_pos rfl]
        exact ⟨y1, y2, y3, y4, y5, y6, y7, fun u1 u2 => by rw [if_neg (by omega)], fun u1 u2 => absurd hp.1.2 u2⟩
      · rw [if_neg z]
        exact ⟨y1, y2, y3, y4, y5, y6, y7, y8, y9⟩
    have hC8 : Cn S8 (o + 28) c (wt R8) (nA_ R8) := by
      rw [wt8, nA8]
      unfold Cn
      rw [z82]
      exact hQ.2.2
    have l8 : ∀ b, o + 28 ≤ b → b < o + 73 → S8.1 b = S.1 b := fun b b1 b2 => funext fun j => by rw [z8 b j (by omega) (by omega), z7 b (by omega) (by omega)]
    have hwc := cnt_b (wt R) (nA_ R)
    have hd5 := g12 (R 5 x).toNat (by omega)
    refine p_finishC (R := R8) hA8 hr8 hC8 (by rw [pw8]; exact hp) ?_ ?_ ?_ ?_ (fun S9 f1 f2 f3 f4 f5 f6 => ?_)
    · rw [l8 _ (by omega) (by omega), hQ.1.2.1]; have := hrA.2.1.2; have := hrA.2.1.1; unfold rng; omega
    · rw [l8 _ (by omega) (by omega)]; unfold rng; omega
    · rw [l8 _ (by omega) (by omega), q8 5 (by decide), hQ.2.1 _ (by omega)]; unfold rng; omega
    · rw [q8 9 (by decide)]; unfold rng; omega
    · rw [q8 5 (by decide)] at f3 f4
      rw [q8 9 (by decide)] at f4
      rw [pw8] at f2
      rw [wt8, nA8] at f6
      rw [nA8] at f5
      obtain ⟨f2a, f2b, f2c, f2d, f2e⟩ := f2
      rw [l8 (o + 28) (by omega) (by omega)] at f2b f2c f2d f2e
      rw [l8 (o + 28 + 3) (by omega) (by omega)] at f3
      rw [l8 (o + 28 + 4) (by omega) (by omega)] at f4
      have v96 : S9.1 o 6 = R 0 6 := by rw [f1 _ _ (by omega) (by omega) (by omega) (by omega), v86]
      have hsv := sv_go (R := R) (cm := cm) (bb := bb) (x := x) n0 n1 n4 (by omega)
      obtain ⟨sv1, sv2⟩ := hsv
      obtain ⟨va, v0, ⟨-, v14⟩, v3, v10, v11, v12', v24, v25⟩ := id sv1
      have m9 : ∀ b, b ≠ o + 28 → b ≠ o + 28 + 3 → b ≠ o + 28 + 4 → b ≠ c x → b ≠ o + 25 + 1 → S9.1 b = S7.1 b := fun b b1 b2 b3 b4 b5 => funext fun j => by rw [f1 b j (by omega) b2 b3 (by omega), z8 b j (by omega) b5]
      refine k S9 v96 ⟨?_, ?_, ?_⟩ (fun b b1 b2 => by rw [m9 b (by omega) (by omega) (by omega) (by omega) (by omega), z7 b (by omega) (by omega)])
      · obtain ⟨S'', es⟩ : ∃ S'', S'' = sI S9 o 6 (R 0 6 + 1) := ⟨_, rfl⟩
        rw [← es]
        have n9 : ∀ b, b ≠ o → S''.1 b = S9.1 b := fun b hb => by rw [es, sI_na hb]
        have n92 : S''.2 = S9.2 := by rw [es, sI_2]
        have hcom := com S'' (tkF R cm bb (some x)) (fun b b1 b2 => by rw [n9 b (by omega), m9 b (by omega) (by omega) (by omega) (by omega) (by omega), p2 b b1 b2]) (fun b b1 b2 => by rw [n9 b (by omega), m9 b (by omega) (by omega) (by omega) (by omega) (by omega)]) (fun b b1 b2 => by
            rw [n92]
            funext j
            rw [f5 b j (by omega) (Or.inr (cA_lo hA hrA (by omega))), z82]) (fun b b1 b2 => by rw [n9 b (by omega), m9 b (by omega) (by omega) (by omega) (by omega) (by omega), z7 b (by omega) (by omega)]) (fun e e1 e2 => by
            rw [n9 e (by omega), m9 e (by omega) (by omega) (by omega) (fun y => by
              have := (hA x hx1).1.2.2.2.1
              rw [← y, e2] at this
              exact absurd this (by decide)) (by omega), z7 e (by omega) (by omega)]) (fun r hr => by rw [n9 _ (by omega), m9 _ (by omega) (by omega) (by omega) (by omega) (by omega), z7 _ (by omega) (by omega)])
          (fun b b0 b2 b3 b10 b11 b12 => by
            by_cases z : 13 ≤ b ∧ b ≤ 21
            · exact sv2 b z.1 z.2
            · rw [va b b0 b3 b10 b11 b12 (by omega)]
              funext j
              exact (W (by omega) (by omega)).symm)
          (fun j hj => by
            by_cases z : j = 26 ∨ j = 30
            · have e : tkF R cm bb (some x) 0 j = wrR R cm bb (aI_ (some x)) (plR R cm ((some x).getD 0)) 0 j := by
                unfold tkF
                rw [uR_k (by omega), if_neg (by omega)]
                unfold goR
                rw [if_neg n4, if_neg n0, if_neg n1, fdR_o (by omega), acR_o (by decide) (by decide) (by decide) (by decide) (by omega), uR_k (by omega)]
              exact e
            · rw [v0 j (by omega) (by omega) (by omega) (by omega) (by omega) (by omega) (by omega)]
              exact (W (by omega) (by omega)).symm) t6 (by rw [v0 10 (by decide) (by decide) (by decide) (by decide) (by decide) (by decide) (by decide), if_neg n0])
        have hq := sv_q (S' := S'') hI0 hg0 hp sv1 (fun i hi j hj => ?_) ?_ ?_ ?_ ?_ ?_ ?_ ?_ ?_ ?_ ?_ ?_
        · obtain ⟨c1, c2, c3, c4, c5, c6, c7'⟩ := hcom
          obtain ⟨d1, d2, d3, d4, d5⟩ := hq
          refine ⟨hV, ⟨?_, c7'⟩, c1, c2, c3, c4, ⟨fun b hb => ?_, fun b hb => ?_⟩, ⟨fun b hb => ?_, fun b hb => ?_⟩, d1, d2, d3, d4, d5, c5, c6⟩
          · have e9 : ∀ j, j ≠ 6 → j ≠ 12 → S''.1 o j = S.1 o j := fun j h1 h3 => by rw [es, sI_ne (by omega), f1 _ _ (by omega) (by omega) (by omega) (by omega), z8 _ _ (by omega) (by omega), z70 j h3]
            have e12 : S''.1 o 12 = R 0 9 + 1 := by rw [es, sI_ne (by omega), f1 _ _ (by omega) (by omega) (by omega) (by omega), z8 _ _ (by omega) (by omega), w12]
            have r9 : tkF R cm bb (some x) 0 9 = R 0 9 + 1 := by
              unfold tkF
              rw [uR_k (by omega), if_neg (by omega)]
              unfold goR
              rw [if_neg n4, if_neg n0, if_neg n1, fdR_o (by omega), acR_o (by decide) (by decide) (by decide) (by decide) (by omega), uR_k (by omega), wrR_9]
            rw [e9 7 (by decide) (by decide), e9 8 (by decide) (by decide), e9 9 (by decide) (by decide), e9 10 (by decide) (by decide), e9 11 (by decide) (by decide), e9 13 (by decide) (by decide), e12, r9, t6, v0 2 (by decide) (by decide) (by decide) (by decide) (by decide) (by decide) (by decide), v0 3 (by decide) (by decide) (by decide) (by decide) (by decide) (by decide) (by decide), v0 7 (by decide) (by decide) (by decide) (by decide) (by decide) (by decide) (by decide), v0 4 (by decide) (by decide) (by decide) (by decide) (by decide) (by decide) (by decide), v0 5 (by decide) (by decide) (by decide) (by decide) (by decide) (by decide) (by decide), v0 8 (by decide) (by decide) (by decide) (by decide) (by decide) (by decide) (by decide)]
            exact ⟨by rw [es, sI_eq], oS.2.1, oS.2.2.1, oS.2.2.2.1, oS.2.2.2.2.1, oS.2.2.2.2.2.1, rfl, oS.2.2.2.2.2.2.2⟩
          · have e26 : S''.1 (o + 25 + 1) b = S8.1 (o + 25 + 1) b := by rw [n9 _ (by omega), f1 _ _ (by omega) (by omega) (by omega) (by omega)]
            rw [e26, e8, sI_at, sI_na (by omega), v3, z7 _ (by omega) (by omega), hM.1 b hb]
          · rw [n9 _ (by omega), m9 _ (by omega) (by omega) (by omega) (by omega) (by omega), z7 _ (by omega) (by omega), va 2 (by decide) (by decide) (by decide) (by decide) (by decide) (by decide)]
            exact hM.2 b hb
          · rw [v3]
            split
            · unfold nbR
              split
              · exact hmem
              · exact by_m hmem.1 hmem.2 m4.1 m4.2.1
            · exact hrM.1 b hb
          · rw [va 2 (by decide) (by decide) (by decide) (by decide) (by decide) (by decide)]
            exact hrM.2 b hb
        · have cli := cl i hi
          have ec : c i = c x → i = x := fun y => cA_inj hA hrA i x ((nA_i hrA i).mpr hi) hxn y
          rw [n9 _ (by omega), f1 _ _ (by omega) (by omega) (by omega) (fun y => hj ⟨ec y.1, Or.inl y.2⟩), z8 _ _ (fun y => hj ⟨ec y.1, Or.inr y.2⟩) (by omega), c7 i hi]
        · rw [n9 _ (by omega)]; exact f2a
        · rw [n9 _ (by omega), f1 _ _ (by omega) (by omega) (by omega) (by omega), e8, sI_na (by omega), sI_eq]
        · intro j h1 h3 h4
          rw [n9 _ (by omega), f1 _ _ (by omega) (by omega) (by omega) (by omega), l8 _ (by omega) (by omega)]
        · rw [n9 _ (by omega)]; exact f2b
        · rw [n9 _ (by omega)]; exact f2c
        · rw [n9 _ (by omega)]; exact f2d
        · rw [n9 _ (by omega)]; exact f2e
        · rw [n9 _ (by omega)]; exact f3
        · rw [n9 _ (by omega)]; exact f4
        · rw [n92]
          funext j
          rw [f5 _ j (by omega) (Or.inr (cA_lo hA hrA (by omega))), z82]
        · unfold Cn
          rw [n92]
          exact f6
      · have r9 : tkF R cm bb (some x) 0 9 = R 0 9 + 1 ∧ tkF R cm bb (some x) 0 26 = R 0 26 + 1 := by
          unfold tkF
          rw [uR_k (by omega), uR_k (by omega), if_neg (by omega)]
          unfold goR
          rw [if_neg n4, if_neg n0, if_neg n1, fdR_o (by omega), fdR_o (by omega), acR_o (by decide) (by decide) (by decide) (by decide) (by omega), acR_o (by decide) (by decide) (by decide) (by decide) (by omega), uR_k (by omega), uR_k (by omega), wrR_9, wrR_26]
          exact ⟨rfl, rfl⟩
        unfold gB
        rw [r9.1, r9.2, t6, v0 7 (by decide) (by decide) (by decide) (by decide) (by decide) (by decide) (by decide), v0 8 (by decide) (by decide) (by decide) (by decide) (by decide) (by decide) (by decide), v0 10 (by decide) (by decide) (by decide) (by decide) (by decide) (by decide) (by decide), sI_na (by omega), f2c]
        refine ⟨by omega, by omega, by omega, by omega, by omega, by omega, ?_, fun b hb => ?_⟩
        · by_cases z : ∀ j, j < x → ¬ pw R j
          · rw [f2d z]; clear z; omega
          · rw [f2e z]; clear z; omega
        · have := g12 b hb
          rw [v12']
          split <;> omega
      · rw [t6, v0 7 (by decide) (by decide) (by decide) (by decide) (by decide) (by decide) (by decide)]
        omega
  · -- OPEN
    obtain ⟨x, ea, hp, ecm, ebb⟩ : ∃ x, a = some x ∧ pw R x ∧ cm = cmd R x ∧ bb = bk (R 6 x) := by
      rcases hcf with ⟨e, -⟩ | ⟨e, -⟩ | ⟨e, -⟩ | h
      · omega
      · exact absurd e n4
      · exact absurd e n1
      · exact h
    subst ea
    obtain ⟨⟨a1, a2, a3, a4, a5⟩, ⟨b0, b1, b2, b3, b4, b5⟩, -⟩ := hA x hp.1.1
    have hxr := pw_r hrA hp
    have hb := hbb (by omega)
    refine ⟨c x, rfl, a4, ?_⟩
    rw [z7 (c x) (by omega) (by omega), b4]
    refine ⟨hb, fun S8 e8 => ?_⟩
    have v86 : S8.1 o 6 = R 0 6 := by rw [e8, sI_na (by omega), z70 6 (by decide), oS.1]
    have n8 : ∀ b, b ≠ o + 25 + 2 → S8.1 b = S7.1 b := fun b hb => by rw [e8, sI_na hb]
    have n82 : S8.2 = S.2 := by rw [e8, sI_2, z72]
    have ego : goR R cm bb (some x) = uR (uR (wrR R cm bb (aI_ (some x)) (plR R cm ((some x).getD 0))) 2 bb.toNat (Int.tdiv (R 6 x) 64)) 0 10 (R 0 10 + 1) := by
      unfold goR
      simp only
      rw [if_neg n4, if_pos e0]
      rfl
    have ra : ∀ b, ¬ b = 0 → ¬ b = 2 → tkF R cm bb (some x) b = wrR R cm bb (aI_ (some x)) (plR R cm ((some x).getD 0)) b := fun b h1 h3 => funext fun j => by rw [tg b j (by omega), ego, uR_k (by omega), uR_k (by omega)]
    have r0 : ∀ j, j ≠ 6 → j ≠ 10 → tkF R cm bb (some x) 0 j = wrR R cm bb (aI_ (some x)) (plR R cm ((some x).getD 0)) 0 j := fun j h1 h3 => by rw [tg 0 j (by omega), ego, uR_k (by omega), uR_k (by omega)]
    have r10 : tkF R cm bb (some x) 0 10 = R 0 10 + 1 := by rw [tg 0 10 (by omega), ego, uR_e]
    have r2 : ∀ j, tkF R cm bb (some x) 2 j = if j = bb.toNat then Int.tdiv (R 6 x) 64 else R 2 j := fun j => by
      rw [tg 2 j (by omega), ego, uR_k (by omega), uR_1]
      by_cases z : j = bb.toNat
      · rw [if_pos ⟨rfl, z⟩, if_pos z]
      · rw [if_neg (fun y => z y.2), if_neg z, W (by omega) (by omega)]
    refine k S8 v86 ⟨?_, ?_, ?_⟩ (fun b b1 b2 => by rw [n8 b (by omega), z7 b (by omega) (by omega)])
    · obtain ⟨S'', es⟩ : ∃ S'', S'' = sI S8 o 6 (R 0 6 + 1) := ⟨_, rfl⟩
      rw [← es]
      have n9 : ∀ b, b ≠ o → S''.1 b = S8.1 b := fun b hb => by rw [es, sI_na hb]
      have n92 : S''.2 = S.2 := by rw [es, sI_2, n82]
      have hcom := com S'' (tkF R cm bb (some x)) (fun b b1 b2 => by rw [n9 b (by omega), n8 b (by omega), p2 b b1 b2]) (fun b b1 b2 => by rw [n9 b (by omega), n8 b (by omega)]) (fun b b1 b2 => by rw [n92]) (fun b b1 b2 => by rw [n9 b (by omega), n8 b (by omega), z7 b (by omega) (by omega)]) (fun e e1 e2 => by rw [n9 e (by omega), n8 e (by omega), z7 e (by omega) (by omega)]) (fun r hr => by rw [n9 _ (by omega), n8 _ (by omega), z7 _ (by omega) (by omega)]) (fun b h1 h2 _ _ _ _ => ra b h1 h2) (fun j hj => r0 j (by omega) (by omega)) t6 (by rw [r10, if_pos e0])
      have hq := com_q (S' := S'') (R' := tkF R cm bb (some x)) hI0 (fun i hi => by have := cl i hi; rw [n9 _ (by omega), n8 _ (by omega), z7 _ (by omega) (by omega)]) n92 (fun b b1 b2 => by rw [n9 b (by omega), n8 b (by omega), z7 b (by omega) (by omega)]) (fun b h1 h2 => by rw [ra b (by omega) (by omega)]; funext j; exact W (by omega) (by omega)) (fun j hj => by rw [r0 j (by omega) (by omega), W (by omega) (by omega)]) (by rw [t6]; omega)
      obtain ⟨c1, c2, c3, c4, c5, c6, c7'⟩ := hcom
      obtain ⟨d1, d2, d3, d4, d5⟩ := hq
      refine ⟨hV, ⟨?_, c7'⟩, c1, c2, c3, c4, ⟨fun b hb => ?_, fun b hb' => ?_⟩, ⟨fun b hb => ?_, fun b hb' => ?_⟩, d1, d2, d3, d4, d5, c5, c6⟩
      · have e9 : ∀ j, j ≠ 6 → j ≠ 12 → S''.1 o j = S.1 o j := fun j h1 h3 => by rw [es, sI_ne (by omega), n8 _ (by omega), z70 j h3]
        have e12 : S''.1 o 12 = R 0 9 + 1 := by rw [es, sI_ne (by omega), n8 _ (by omega), w12]
        have r9 : tkF R cm bb (some x) 0 9 = R 0 9 + 1 := by rw [r0 9 (by decide) (by decide), wrR_9]
        have rw' : ∀ j, j ≠ 6 → j ≠ 10 → j ≠ 26 → j ≠ 9 → j ≠ 30 → tkF R cm bb (some x) 0 j = R 0 j := fun j h1 h2 h3 h4 h5 => by rw [r0 j h1 h2, W (by omega) (by omega)]
        rw [e9 7 (by decide) (by decide), e9 8 (by decide) (by decide), e9 9 (by decide) (by decide), e9 10 (by decide) (by decide), e9 11 (by decide) (by decide), e9 13 (by decide) (by decide), e12, r9, t6, rw' 2 (by decide) (by decide) (by decide) (by decide) (by decide), rw' 3 (by decide) (by decide) (by decide) (by decide) (by decide), rw' 7 (by decide) (by decide) (by decide) (by decide) (by decide), rw' 4 (by decide) (by decide) (by decide) (by decide) (by decide), rw' 5 (by decide) (by decide) (by decide) (by decide) (by decide), rw' 8 (by decide) (by decide) (by decide) (by decide) (by decide)]
        exact ⟨by rw [es, sI_eq], oS.2.1, oS.2.2.1, oS.2.2.2.1, oS.2.2.2.2.1, oS.2.2.2.2.2.1, rfl, oS.2.2.2.2.2.2.2⟩
      · rw [n9 _ (by omega), n8 _ (by omega), z7 _ (by omega) (by omega), ra 3 (by decide) (by decide), W (by omega) (by omega)]
        exact hM.1 b hb
      · rw [n9 _ (by omega), e8, sI_at, r2, z7 _ (by omega) (by omega), hM.2 b hb']
      · rw [ra 3 (by decide) (by decide), W (by omega) (by omega)]
        exact hrM.1 b hb
      · rw [r2]
        split
        · right
          rw [tdiv_e hxr.2.2.1]
          omega
        · exact hrM.2 b hb'
    · unfold gB
      rw [t6, r0 7 (by decide) (by decide), r0 8 (by decide) (by decide), r0 9 (by decide) (by decide), r10, r0 26 (by decide) (by decide), wrR_9, wrR_26, W (by omega) (by omega), W (by omega) (by omega), sI_na (by omega), n8 _ (by omega), z7 _ (by omega) (by omega)]
      refine ⟨by omega, by omega, by omega, by omega, by omega, by omega, by omega, fun b hb' => ?_⟩
      rw [ra 12 (by decide) (by decide), W (by omega) (by omega)]
      have := g12 b hb'
      omega
    · rw [t6, r0 7 (by decide) (by decide), W (by omega) (by omega)]; omega
  · -- SHUT
    have hb := hbb (by omega)
    refine ⟨hb, fun S8 e8 => ?_⟩
    have v86 : S8.1 o 6 = R 0 6 := by rw [e8, sI_na (by omega), z70 6 (by decide), oS.1]
    have n8 : ∀ b, b ≠ o + 25 + 2 → S8.1 b = S7.1 b := fun b hb => by rw [e8, sI_na hb]
    have n82 : S8.2 = S.2 := by rw [e8, sI_2, z72]
    have ego : goR R cm bb a = uR (wrR R cm bb (aI_ a) (plR R cm (a.getD 0))) 2 bb.toNat (-2) := by
      unfold goR
      simp only
      rw [if_neg n4, if_neg (by omega), if_pos e1]
    have ra : ∀ b, ¬ b = 0 → ¬ b = 2 → tkF R cm bb a b = wrR R cm bb (aI_ a) (plR R cm (a.getD 0)) b := fun b h1 h3 => funext fun j => by rw [tg b j (by omega), ego, uR_k (by omega)]
    have r0 : ∀ j, j ≠ 6 → tkF R cm bb a 0 j = wrR R cm bb (aI_ a) (plR R cm (a.getD 0)) 0 j := fun j h1 => by rw [tg 0 j (by omega), ego, uR_k (by omega)]
    have r2 : ∀ j, tkF R cm bb a 2 j = if j = bb.toNat then -2 else R 2 j := fun j => by
      rw [tg 2 j (by omega), ego, uR_1]
      by_cases z : j = bb.toNat
      · rw [if_pos ⟨rfl, z⟩, if_pos z]
      · rw [if_neg (fun y => z y.2), if_neg z, W (by omega) (by omega)]
    refine k S8 v86 ⟨?_, ?_, ?_⟩ (fun b b1 b2 => by rw [n8 b (by omega), z7 b (by omega) (by omega)])
    · obtain ⟨S'', es⟩ : ∃ S'', S'' = sI S8 o 6 (R 0 6 + 1) := ⟨_, rfl⟩
      rw [← es]
      have n9 : ∀ b, b ≠ o → S''.1 b = S8.1 b := fun b hb => by rw [es, sI_na hb]
      have n92 : S''.2 = S.2 := by rw [es, sI_2, n82]
      have hcom := com S'' (tkF R cm bb a) (fun b b1 b2 => by rw [n9 b (by omega), n8 b (by omega), p2 b b1 b2]) (fun b b1 b2 => by rw [n9 b (by omega), n8 b (by omega)]) (fun b b1 b2 => by rw [n92]) (fun b b1 b2 => by rw [n9 b (by omega), n8 b (by omega), z7 b (by omega) (by omega)]) (fun e e1 e2 => by rw [n9 e (by omega), n8 e (by omega), z7 e (by omega) (by omega)]) (fun r hr => by rw [n9 _ (by omega), n8 _ (by omega), z7 _ (by omega) (by omega)]) (fun b h1 h2 _ _ _ _ => ra b h1 h2) (fun j hj => r0 j (by omega)) t6 (by rw [r0 10 (by decide), if_neg (by omega), W (by omega) (by omega)])
      have hq := com_q (S' := S'') (R' := tkF R cm bb a) hI0 (fun i hi => by have := cl i hi; rw [n9 _ (by omega), n8 _ (by omega), z7 _ (by omega) (by omega)]) n92 (fun b b1 b2 => by rw [n9 b (by omega), n8 b (by omega), z7 b (by omega) (by omega)]) (fun b h1 h2 => by rw [ra b (by omega) (by omega)]; funext j; exact W (by omega) (by omega)) (fun j hj => by rw [r0 j (by omega), W (by omega) (by omega)]) (by rw [t6]; omega)
      obtain ⟨c1, c2, c3, c4, c5, c6, c7'⟩ := hcom
      obtain ⟨d1, d2, d3, d4, d5⟩ := hq
      refine ⟨hV, ⟨?_, c7'⟩, c1, c2, c3, c4, ⟨fun b hb => ?_, fun b hb' => ?_⟩, ⟨fun b hb => ?_, fun b hb' => ?_⟩, d1, d2, d3, d4, d5, c5, c6⟩
      · have e9 : ∀ j, j ≠ 6 → j ≠ 12 → S''.1 o j = S.1 o j := fun j h1 h3 => by rw [es, sI_ne (by omega), n8 _ (by omega), z70 j h3]
        have e12 : S''.1 o 12 = R 0 9 + 1 := by rw [es, sI_ne (by omega), n8 _ (by omega), w12]
        have r9 : tkF R cm bb a 0 9 = R 0 9 + 1 := by rw [r0 9 (by decide), wrR_9]
        have rw' : ∀ j, j ≠ 6 → j ≠ 26 → j ≠ 9 → j ≠ 30 → tkF R cm bb a 0 j = R 0 j := fun j h1 h3 h4 h5 => by rw [r0 j h1, W (by omega) (by omega)]
        rw [e9 7 (by decide) (by decide), e9 8 (by decide) (by decide), e9 9 (by decide) (by decide), e9 10 (by decide) (by decide), e9 11 (by decide) (by decide), e9 13 (by decide) (by decide), e12, r9, t6, rw' 2 (by decide) (by decide) (by decide) (by decide), rw' 3 (by decide) (by decide) (by decide) (by decide), rw' 7 (by decide) (by decide) (by decide) (by decide), rw' 4 (by decide) (by decide) (by decide) (by decide), rw' 5 (by decide) (by decide) (by decide) (by decide), rw' 8 (by decide) (by decide) (by decide) (by decide)]
        exact ⟨by rw [es, sI_eq], oS.2.1, oS.2.2.1, oS.2.2.2.1, oS.2.2.2.2.1, oS.2.2.2.2.2.1, rfl, oS.2.2.2.2.2.2.2⟩
      · rw [n9 _ (by omega), n8 _ (by omega), z7 _ (by omega) (by omega), ra 3 (by decide) (by decide), W (by omega) (by omega)]
        exact hM.1 b hb
      · rw [n9 _ (by omega), e8, sI_at, r2, z7 _ (by omega) (by omega), hM.2 b hb']
      · rw [ra 3 (by decide) (by decide), W (by omega) (by omega)]
        exact hrM.1 b hb
      · rw [r2]
        split
        · left; rfl
        · exact hrM.2 b hb'
    · unfold gB
      rw [t6, r0 7 (by decide), r0 8 (by decide), r0 9 (by decide), r0 10 (by decide), r0 26 (by decide), wrR_9, wrR_26, W (by omega) (by omega), W (by omega) (by omega), W (by omega) (by omega), sI_na (by omega), n8 _ (by omega), z7 _ (by omega) (by omega)]
      refine ⟨by omega, by omega, by omega, by omega, by omega, by omega, by omega, fun b hb' => ?_⟩
      rw [ra 12 (by decide) (by decide), W (by omega) (by omega)]
      have := g12 b hb'
      omega
    · rw [t6, r0 7 (by decide), W (by omega) (by omega)]; omega
  · -- REFRESH
    have hw : 0 < R 0 7 := by
      rcases hcf with ⟨e, -⟩ | ⟨-, -, -, e⟩ | ⟨e, -⟩ | ⟨x, -, -, e, -⟩
      · omega
      · exact e
      · omega
      · have := cmd_b (R := R) (x := x); omega
    rw [z70 9 (by decide), oS.2.2.2.1]
    refine ⟨by unfold rng; omega, fun S21 e21 => ?_⟩
    have v13 : S21.1 o 13 = R 0 8 := by rw [e21, sI_ne (by omega), z70 13 (by decide), oS.2.2.2.2.2.2.2]
    rw [v13]
    refine ⟨by unfold rng; omega, fun S8 e8 => ?_⟩
    have v86 : S8.1 o 6 = R 0 6 := by rw [e8, sI_ne (by omega), e21, sI_ne (by omega), z70 6 (by decide), oS.1]
    have n8 : ∀ b, b ≠ o → S8.1 b = S7.1 b := fun b hb => by rw [e8, sI_na hb, e21, sI_na hb]
    have n82 : S8.2 = S.2 := by rw [e8, sI_2, e21, sI_2, z72]
    have ego : goR R cm bb a = uR (uR (wrR R cm bb (aI_ a) (plR R cm (a.getD 0))) 0 7 (R 0 7 - 1)) 0 8 (R 0 8 + 1) := by
      unfold goR
      simp only
      rw [if_pos e4]
    have ra : ∀ b, ¬ b = 0 → tkF R cm bb a b = wrR R cm bb (aI_ a) (plR R cm (a.getD 0)) b := fun b h1 => funext fun j => by rw [tg b j (by omega), ego, uR_k (by omega), uR_k (by omega)]
    have r0 : ∀ j, j ≠ 6 → j ≠ 7 → j ≠ 8 → tkF R cm bb a 0 j = wrR R cm bb (aI_ a) (plR R cm (a.getD 0)) 0 j := fun j h1 h2 h3 => by rw [tg 0 j (by omega), ego, uR_k (by omega), uR_k (by omega)]
    have r7 : tkF R cm bb a 0 7 = R 0 7 - 1 := by rw [tg 0 7 (by omega), ego, uR_k (by omega), uR_e]
    have r8 : tkF R cm bb a 0 8 = R 0 8 + 1 := by rw [tg 0 8 (by omega), ego, uR_e]
    refine k S8 v86 ⟨?_, ?_, ?_⟩ (fun b b1 b2 => by rw [n8 b (by omega), z7 b (by omega) (by omega)])
    · obtain ⟨S'', es⟩ : ∃ S'', S'' = sI S8 o 6 (R 0 6 + 1) := ⟨_, rfl⟩
      rw [← es]
      have n9 : ∀ b, b ≠ o → S''.1 b = S8.1 b := fun b hb => by rw [es, sI_na hb]
      have n92 : S''.2 = S.2 := by rw [es, sI_2, n82]
      have hcom := com S'' (tkF R cm bb a) (fun b b1 b2 => by rw [n9 b (by omega), n8 b (by omega), p2 b b1 b2]) (fun b b1 b2 => by rw [n9 b (by omega), n8 b (by omega)]) (fun b b1 b2 => by rw [n92]) (fun b b1 b2 => by rw [n9 b (by omega), n8 b (by omega), z7 b (by omega) (by omega)]) (fun e e1 e2 => by rw [n9 e (by omega), n8 e (by omega), z7 e (by omega) (by omega)]) (fun r hr => by rw [n9 _ (by omega), n8 _ (by omega), z7 _ (by omega) (by omega)]) (fun b h1 _ _ _ _ _ => ra b h1) (fun j hj => r0 j (by omega) (by omega) (by omega)) t6 (by rw [r0 10 (by decide) (by decide) (by decide), if_neg (by omega), W (by omega) (by omega)])
      have hq := com_q (S' := S'') (R' := tkF R cm bb a) hI0 (fun i hi => by have := cl i hi; rw [n9 _ (by omega), n8 _ (by omega), z7 _ (by omega) (by omega)]) n92 (fun b b1 b2 => by rw [n9 b (by omega), n8 b (by omega), z7 b (by omega) (by omega)]) (fun b h1 h2 => by rw [ra b (by omega)]; funext j; exact W (by omega) (by omega)) (fun j hj => by rw [r0 j (by omega) (by omega) (by omega), W (by omega) (by omega)]) (by rw [t6]; omega)
      obtain ⟨c1, c2, c3, c4, c5, c6, c7'⟩ := hcom
      obtain ⟨d1, d2, d3, d4, d5⟩ := hq
      refine ⟨hV, ⟨?_, c7'⟩, c1, c2, c3, c4, ⟨fun b hb => ?_, fun b hb' => ?_⟩, ⟨fun b hb => ?_, fun b hb' => ?_⟩, d1, d2, d3, d4, d5, c5, c6⟩
      · have e9 : ∀ j, j ≠ 6 → j ≠ 9 → j ≠ 13 → j ≠ 12 → S''.1 o j = S.1 o j := fun j h1 h2 h4 h3 => by rw [es, sI_ne (by omega), e8, sI_ne (by omega), e21, sI_ne (by omega), z70 j h3]
        have e12 : S''.1 o 12 = R 0 9 + 1 := by rw [es, sI_ne (by omega), e8, sI_ne (by omega), e21, sI_ne (by omega), w12]
        have f9 : S''.1 o 9 = R 0 7 - 1 := by rw [es, sI_ne (by omega), e8, sI_ne (by omega), e21, sI_eq]
        have f13 : S''.1 o 13 = R 0 8 + 1 := by rw [es, sI_ne (by omega), e8, sI_eq]
        have r9 : tkF R cm bb a 0 9 = R 0 9 + 1 := by rw [r0 9 (by decide) (by decide) (by decide), wrR_9]
        have rw' : ∀ j, j ≠ 6 → j ≠ 7 → j ≠ 8 → j ≠ 26 → j ≠ 9 → j ≠ 30 → tkF R cm bb a 0 j = R 0 j := fun j h1 h2 h6 h3 h4 h5 => by rw [r0 j h1 h2 h6, W (by omega) (by omega)]
        rw [e9 7 (by decide) (by decide) (by decide) (by decide), e9 8 (by decide) (by decide) (by decide) (by decide), f9, e9 10 (by decide) (by decide) (by decide) (by decide), e9 11 (by decide) (by decide) (by decide) (by decide), f13, e12, r9, t6, r7, r8, rw' 2 (by decide) (by decide) (by decide) (by decide) (by decide) (by decide), rw' 3 (by decide) (by decide) (by decide) (by decide) (by decide) (by decide), rw' 4 (by decide) (by decide) (by decide) (by decide) (by decide) (by decide), rw' 5 (by decide) (by decide) (by decide) (by decide) (by decide) (by decide)]
        exact ⟨by rw [es, sI_eq], oS.2.1, oS.2.2.1, rfl, oS.2.2.2.2.1, oS.2.2.2.2.2.1, rfl, rfl⟩
      · rw [n9 _ (by omega), n8 _ (by omega), z7 _ (by omega) (by omega), ra 3 (by decide), W (by omega) (by omega)]
        exact hM.1 b hb
      · rw [n9 _ (by omega), n8 _ (by omega), z7 _ (by omega) (by omega), ra 2 (by decide), W (by omega) (by omega)]
        exact hM.2 b hb'
      · rw [ra 3 (by decide), W (by omega) (by omega)]
        exact hrM.1 b hb
      · rw [ra 2 (by decide), W (by omega) (by omega)]
        exact hrM.2 b hb'
    · unfold gB
      rw [t6, r7, r8, r0 9 (by decide) (by decide) (by decide), r0 10 (by decide) (by decide) (by decide), r0 26 (by decide) (by decide) (by decide), wrR_9, wrR_26, W (by omega) (by omega), sI_na (by omega), n8 _ (by omega), z7 _ (by omega) (by omega)]
      refine ⟨by omega, by omega, by omega, by omega, by omega, by omega, by omega, fun b hb' => ?_⟩
      rw [ra 12 (by decide), W (by omega) (by omega)]
      have := g12 b hb'
      omega
    · rw [t6, r7]; omega

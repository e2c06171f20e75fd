/-! ===== PURE PART: Queue.insert, rankOf, arrange ===== -/
theorem p_insert {V : Vt} {S : Me} {Q : Option Nat → Me → Prop} {c : Nat → Nat} {f : Nat → Int} {first : Option Nat} {j n : Nat} {l : List Nat} (hl : ∀ x ∈ l, x < n) (hj : j < n) (hjl : j ∉ l) (hnd : l.Nodup) (hc : ∀ i k, i < n → k < n → c i = c k → i = k) (hA : ∀ i, i < n → isA (V.2.1 (c i))) (hr : ∀ x ∈ l, S.1 (c x) 10 = f x) (hrj : S.1 (c j) 10 = f j) (hs : srt f l) (h : Sg S c first l none)
    (k : ∀ r S', S'.1 = S.1 → (∀ a i, ((∀ x, x < n → a ≠ c x) ∨ i ≠ 9) → S'.2 a i = S.2 a i) → Sg S' c r (ins f j l) none → Q r S') : PT_X7_insert V first (some (c j)) S Q := by
  have stop : ∀ (pre post : List Nat) (y2 y3 : Option Nat), l = pre ++ post → Sg S c first pre y3 → Sg S c y3 post none → ((y2 = none ∧ pre = []) ∨ ∃ p a, pre = p ++ [a] ∧ y2 = some (c a)) → (∀ x ∈ pre, f x ≤ f j) → (∀ x ∈ post, f j < f x) → B_X7_insert_29 V first (some (c j)) y2 S Q := by
    intro pre post y2 y3 e g1 g2 g3 g4 g5
    have ei : ins f j l = pre ++ j :: post := by rw [e]; exact ins_eq g4 g5
    unfold B_X7_insert_29
    rcases g3 with ⟨e2, ep⟩ | ⟨p, a, ep, e2⟩
    · refine ⟨fun q => absurd e2 q, fun _ => ⟨c j, rfl, hA j hj, fun S8 e8 => ?_⟩⟩
      subst e8 ep
      have ey : first = y3 := g1
      refine k _ _ rfl ?_ ?_
      · intro a i hi
        rw [sP_2, if_neg]
        rintro ⟨q1, q2⟩
        rcases hi with z | z
        · exact z j hj q1
        · exact z q2
      · rw [ei]
        refine ⟨rfl, ?_⟩
        rw [sP_2, if_pos ⟨rfl, rfl⟩, ey]
        refine Sg_c _ _ _ (fun x hx => ?_) g2
        rw [sP_2, if_neg]
        rintro ⟨q1, -⟩
        have hxl : x ∈ l := by rw [e]; exact List.mem_append_right _ hx
        exact hjl (by rw [← hc x j (hl x hxl) hj q1]; exact hxl)
    · have hal : a ∈ l := by rw [e, ep]; simp
      have han := hl a hal
      have haj : c a ≠ c j := fun q => hjl (by rw [← hc a j han hj q]; exact hal)
      refine ⟨fun _ => ⟨c a, e2, hA a han, c j, rfl, hA j hj, fun S5 e5 S6 e6 => ?_⟩, fun q => by rw [e2] at q; cases q⟩
      subst e5 e6
      have v : ∀ x i, (x ≠ c a ∨ i ≠ 9) → (x ≠ c j ∨ i ≠ 9) → (sP (sP S (c j) 9 (S.2 (c a) 9)) (c a) 9 (some (c j))).2 x i = S.2 x i := by
        intro x i h1 h2
        rw [sP_2, if_neg (by omega), sP_2, if_neg (by omega)]
      refine k _ _ rfl ?_ ?_
      · intro x i hi
        rcases hi with z | z
        · exact v x i (Or.inl (z a han)) (Or.inl (z j hj))
        · exact v x i (Or.inr z) (Or.inr z)
      · rw [ei, ep, List.append_assoc]
        subst ep
        obtain ⟨m, m1, m2, m3⟩ := (Sg_a p [a] first y3).mp g1
        have hpl : ∀ x ∈ p, x ∈ l := fun x hx => by rw [e]; simp [hx]
        have hpa : ∀ x ∈ p, x ≠ a := by
          intro x hx q
          subst q
          rw [e] at hnd
          have := (List.nodup_append.mp (List.nodup_append.mp hnd).1).2.2 x hx x (by simp)
          exact this rfl
        have hqa : ∀ x ∈ post, x ≠ a := by
          intro x hx q
          subst q
          rw [e] at hnd
          exact (List.nodup_append.mp hnd).2.2 x (by simp) x hx rfl
        refine (Sg_a p _ first none).mpr ⟨m, Sg_c _ _ _ (fun x hx => ?_) m1, m2, ?_⟩
        · exact v _ _ (Or.inl (fun q => hpa x hx (hc x a (hl x (hpl x hx)) han q))) (Or.inl (fun q => hjl (by rw [← hc x j (hl x (hpl x hx)) hj q]; exact hpl x hx)))
        · rw [sP_2, if_pos ⟨rfl, rfl⟩]
          refine ⟨rfl, ?_⟩
          rw [sP_2, if_neg (fun q => haj q.1.symm), sP_2, if_pos ⟨rfl, rfl⟩]
          have m3 : S.2 (c a) 9 = y3 := m3
          rw [m3]
          rw [m3] at v
          refine Sg_c _ _ _ (fun x hx => ?_) g2
          have hxl : x ∈ l := by rw [e]; exact List.mem_append_right _ hx
          exact v _ _ (Or.inl (fun q => hqa x hx (hc x a (hl x hxl) han q))) (Or.inl (fun q => hjl (by rw [← hc x j (hl x hxl) hj q]; exact hxl)))
  have key : ∀ (fu : Nat) (pre post : List Nat) (y2 y3 : Option Nat), l = pre ++ post → post.length < fu → Sg S c first pre y3 → Sg S c y3 post none → ((y2 = none ∧ pre = []) ∨ ∃ p a, pre = p ++ [a] ∧ y2 = some (c a)) → (∀ x ∈ pre, f x ≤ f j) → B_X7_insert_4 V first (some (c j)) Q fu y2 y3 S := by
    intro fu
    induction fu with
    | zero => intro pre post y2 y3 _ a; omega
    | succ fu ih =>
      intro pre post y2 y3 e hf g1 g2 g3 g4
      unfold B_X7_insert_4
      cases post with
      | nil =>
        have ey : y3 = none := g2
        refine ⟨fun _ => stop pre [] y2 y3 e g1 g2 g3 g4 (fun x hx => by cases hx), fun q => absurd ey q⟩
      | cons x post =>
        have hxl : x ∈ l := by rw [e]; simp
        have g2' := g2
        obtain ⟨ex, g2⟩ := g2
        refine ⟨fun q => (by rw [ex] at q; cases q), fun _ => ⟨c x, ex, hA x (hl x hxl), c j, rfl, hA j hj, fun q => ?_, fun q => ?_⟩⟩
        · rw [hrj, hr x hxl] at q
          refine stop pre (x :: post) y2 y3 e g1 g2' g3 g4 (fun z hz => ?_)
          rcases List.mem_cons.mp hz with w | w
          · rw [w]; exact q
          · unfold srt at hs
            rw [e] at hs
            have := (List.pairwise_cons.mp (List.pairwise_append.mp hs).2.1).1 z w
            omega
        · rw [hrj, hr x hxl] at q
          refine ih (pre ++ [x]) post y3 _ (by rw [e]; simp) (by simp only [List.length_cons] at hf; omega) ?_ g2 (Or.inr ⟨pre, x, rfl, ex⟩) (fun z hz => ?_)
          · exact (Sg_a pre [x] first _).mpr ⟨y3, g1, ex, rfl⟩
          · rcases List.mem_append.mp hz with w | w
            · exact g4 z w
            · rw [List.mem_singleton.mp w]; omega
  exact ⟨l.length + 1, key (l.length + 1) [] l none first rfl (by omega) rfl h (Or.inl ⟨rfl, rfl⟩) (fun x hx => by cases hx)⟩
theorem p_rankOf {o : Nat} {V : Vt} {S : Me} {c : Nat → Nat} {R : Rm} {n : Int} {j : Nat} {Q : Int → Me → Prop} (hV : jV o V) (hM : jM o S R) (hA : cA o V S c R) (hr : rA R) (hQ : ∀ a, a < 4 → S.1 (o + 28 + 3) a = R 12 a) (hg : gB o S R n) (hs : rS R) (hj : pw R j) (hn : ¬ (R 0 4 = 1 ∧ R 0 5 ≤ R 0 25)) (k : Q (rk R j) S) : PT_X7_rankOf V (o + 28) (some (c j)) (R 0 4) (some (o + 25)) S Q := by
  obtain ⟨⟨a1, a2, a3, a4, a5⟩, ⟨b0, b1, b2, b3, b4, b5⟩, -⟩ := hA j hj.1.1
  obtain ⟨-, r5, r6, -⟩ := hr.2.2 j hj.1.1
  have r6 : 0 ≤ R 6 j ∧ R 6 j < 1024 := by
    rcases r6 with z | z
    · exact absurd z.1 hj.2
    · exact z.2
  have hb := bk_b r6.1 r6.2
  have ho := hs.2.2.2.1
  have hd := hg.2.2.2.2.2.2.2 (R 5 j).toNat (by omega)
  have hg1 := hg.1
  unfold PT_X7_rankOf
  refine ⟨fun e => ⟨o + 25, rfl, hV.1.2.2.2.2.1.2, c j, rfl, a4, ?_⟩, fun e => ⟨c j, rfl, a4, ?_⟩, fun e => ?_⟩
  · rw [b3, b4, hM.2 _ (by omega)]
    have e1 : rk R j = if R 2 (bk (R 6 j)).toNat = Int.tdiv (R 6 j) 64 then 0 else 1 := by
      unfold rk
      rw [if_neg (by omega), if_pos e]
    rw [e1] at k
    refine ⟨hb, fun q => by rw [if_neg q] at k; exact k, fun q => by rw [if_pos q] at k; exact k⟩
  · rw [b1, hQ _ (by omega)]
    have e1 : rk R j = R 12 (R 5 j).toNat * 4 + R 5 j := by
      unfold rk
      rw [if_neg (by omega), if_neg (by omega)]
      omega
    rw [e1] at k
    exact ⟨r5, by unfold rng; omega, by unfold rng; omega, k⟩
  · have e1 : rk R j = 0 := by
      unfold rk
      rw [if_pos (by omega)]
    rw [e1] at k
    exact k
theorem p_arrange {o : Nat} {V : Vt} {S : Me} {c : Nat → Nat} {R : Rm} {n : Int} {Q : Option Nat → Me → Prop} (hV : jV o V) (hM : jM o S R) (hA : cA o V S c R) (hr : rA R) (hQ : jQ o S c R) (hg : gB o S R n) (hs : rS R)
    (k : ∀ r S', fB c (nA_ R) S S' → Sg S' c r (ord R) none → Q r S') : PT_X7_arrange V (o + 28) (R 0 4) (R 0 5) (some (o + 25)) S Q := by
  have hc := cA_inj hA hr
  have lo : ∀ {a : Nat}, a < o + 73 → ∀ i, i < nA_ R → a ≠ c i := fun h => cA_lo hA hr h
  have hAi : ∀ i, i < nA_ R → isA (V.2.1 (c i)) := fun i hi => (hA i ((nA_i hr i).mp hi)).1.2.2.2.1
  have main : ∀ w : Int, (¬ w = 0 ↔ (R 0 4 = 1 ∧ R 0 5 ≤ R 0 25)) → B_X7_arrange_23 V (o + 28) (R 0 4) (R 0 5) (some (o + 25)) w S Q := by
    intro w hw
    have key : ∀ (fu i : Nat) (y5 y6 : Option Nat) (S1 : Me), nA_ R + 1 - i < fu → i ≤ nA_ R → Nx (wt R) c i y6 → fB c (nA_ R) S S1 → Sg S1 c y5 (ordN R i) none → (∀ x ∈ ordN R i, S1.1 (c x) 10 = rk R x) → B_X7_arrange_34 V (o + 28) (R 0 4) (R 0 5) (some (o + 25)) Q fu w y5 y6 S1 := by
      intro fu
      induction fu with
      | zero => intro i y5 y6 S1 a; omega
      | succ fu ih =>
        intro i y5 y6 S1 hf hi hx hb g1 g2
        have hA1 := cA_fB hA hr hb
        have hC1 := Cn_fB hQ.2.2 hb
        unfold B_X7_arrange_34
        rcases hx with ⟨e, a⟩ | ⟨j, e, b1, b2, b3⟩
        · refine ⟨fun _ => k y5 S1 hb ?_, fun q => absurd e q⟩
          have := ordN_sk (R := R) (nA_ R - i) i (fun j h1 h2 q => a j h1 ⟨(nA_i hr j).mp (by omega), q.1⟩)
          rw [show i + (nA_ R - i) = nA_ R by omega] at this
          unfold ord
          rw [this]
          exact g1
        · have hjn := wt_n hr j b2
          have hAj := hAi j hjn
          have hTj := (hA j b2.1).1.2.2.2.2
          have sk : ordN R j = ordN R i := by
            have := ordN_sk (R := R) (j - i) i (fun j' h1 h2 q => b3 j' h1 (by omega) ⟨by have := b2.1; omega, q.1⟩)
            rwa [show i + (j - i) = j by omega] at this
          refine ⟨fun q => (by rw [e] at q; cases q), fun _ => ⟨c j, e, hAj, pv_isFence hAj (fun q4 => ⟨fun _ => ⟨c j, e, hAj, ?_⟩, fun q => absurd q (by decide)⟩) (fun q4 => ⟨fun q => absurd rfl q, fun _ => ?_⟩)⟩⟩
          · have so : ordN R (j + 1) = ordN R i := by
              rw [← sk, ordN, if_neg (fun q => q.2 (by rw [← hTj]; exact q4))]
            refine ih (j + 1) y5 _ S1 (by omega) (by omega) (hC1.2.1 j b2) hb (by rw [so]; exact g1) (by rw [so]; exact g2)
          · have hpw : pw R j := ⟨b2, by rw [← hTj]; exact q4⟩
            have so : ordN R (j + 1) = ins (rk R) j (ordN R i) := by
              rw [← sk, ordN, if_pos ⟨b2.2, hpw.2⟩]
            have go : B_X7_arrange_66 V (o + 28) (R 0 4) (R 0 5) (some (o + 25)) (B_X7_arrange_34 V (o + 28) (R 0 4) (R 0 5) (some (o + 25)) Q fu) w y5 y6 y6 (rk R j) S1 Q := by
              refine ⟨c j, e, hAj, fun S4 e4 => ?_⟩
              have u4 : ∀ x ∈ ordN R i, S4.1 (c x) 10 = rk R x := by
                intro x hx
                have hxi := ordN_m i x hx
                rw [e4, sI_ne (Or.inl (fun q => by have := hc x j (by omega) hjn q; omega)), g2 x hx]
              rw [e]
              refine p_insert (n := nA_ R) (f := rk R) (l := ordN R i) (fun x hx => by have := (ordN_m i x hx).1; omega) hjn (fun q => by have := (ordN_m i j q).1; omega) (ordN_nd i) hc hAi u4 (by rw [e4, sI_eq]) (ordN_s i) (Sg_c (S := S1) _ _ _ (fun x _ => by rw [e4, sI_2]) g1) (fun r S' z1 z2 z3 => ?_)
              have hb' : fB c (nA_ R) S S' := fB_t hb ⟨fun a i' hi' => by
                rw [z1, e4, sI_1, if_neg]
                rintro ⟨q1, q2⟩
                rcases hi' with w | w
                · exact w j hjn q1
                · exact w q2, fun a i' hi' => by rw [z2 a i' hi', e4, sI_2]⟩
              refine ⟨c j, rfl, hAj, ih (j + 1) r _ S' (by omega) (by omega) ?_ hb' (by rw [so]; exact z3) ?_⟩
              · exact (Cn_fB hQ.2.2 hb').2.1 j b2
              · rw [so]
                intro x hx
                rw [z1]
                rcases ins_mem.mp hx with q | q
                · rw [q, e4, sI_eq]
                · exact u4 x q
            have zM : jM o S1 R := ⟨fun a ha => by rw [fB_1 hb (lo (by omega))]; exact hM.1 a ha, fun b hb' => by rw [fB_1 hb (lo (by omega))]; exact hM.2 b hb'⟩
            have zg : gB o S1 R n := by
              unfold gB
              rw [fB_1 hb (lo (a := o + 28) (by omega))]
              exact hg
            refine ⟨fun q => ?_, fun q => ?_⟩
            · rw [e]
              refine p_rankOf hV zM hA1 hr (fun a ha => by rw [fB_1 hb (lo (by omega))]; exact hQ.2.1 a ha) zg hs hpw (fun z => (hw.mpr z) q) ?_
              rw [← e]
              exact go
            · have e0 : rk R j = 0 := by
                unfold rk
                rw [if_pos (Or.inr (hw.mp q))]
              rw [← e0]
              exact go
    exact ⟨nA_ R + 2, key (nA_ R + 2) 0 none _ S (by omega) (by omega) hQ.2.2.1 fB_r rfl (fun x hx => by cases hx)⟩
  unfold PT_X7_arrange
  have hgu := hg.2.2.2.2.2.2.1
  have hg1 := hg.1
  have hd := hQ.1.2.2.2
  refine ⟨fun q => main 0 ⟨fun z => absurd rfl z, fun z => absurd z.1 q⟩, fun q => ⟨by unfold rng; omega, fun q2 => main 0 ⟨fun z => absurd rfl z, fun z => ?_⟩, fun q2 => main 1 ⟨fun _ => ⟨q, ?_⟩, fun _ => by decide⟩⟩⟩
  · exfalso
    have := z.2
    omega
  · omega

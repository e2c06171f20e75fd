/-! ===== PURE PART: the reference's rank and findOrder ===== -/
theorem cnt_mono {p : Nat → Prop} : ∀ (d i : Nat), cnt p i ≤ cnt p (i + d)
  | 0, _ => Int.le_refl _
  | d + 1, i => by
    have h := cnt_mono (p := p) d i
    have := ic_b (p (i + d))
    show cnt p i ≤ cnt p (i + d) + ic (p (i + d))
    omega
theorem cnt_sub {p p' : Nat → Prop} (h : ∀ i, p i → p' i) : ∀ n : Nat, cnt p n ≤ cnt p' n
  | 0 => Int.le_refl _
  | n + 1 => by
    have e := cnt_sub h n
    simp only [cnt]
    by_cases q : p n
    · rw [ic_1 q, ic_1 (h n q)]; omega
    · have := ic_b (p' n)
      rw [ic_0 q]; omega
theorem ordN_12 {R : Rm} (hr : rA R) {i : Nat} (hi : i ≤ nA_ R) : (ordN R i).length ≤ 12 := by
  have h1 := ordN_l (R := R) i (by have := hr.1; unfold nA_ at hi; omega)
  have h2 := cnt_mono (p := pw R) (nA_ R - i) i
  rw [show i + (nA_ R - i) = nA_ R by omega] at h2
  have h3 := cnt_sub (p := pw R) (p' := wt R) (fun i h => h.1) (nA_ R)
  have h4 := hr.2.1
  omega
theorem p_isOpen {V : Vt} {q : Nat} {S : Me} {Q : Int → Me → Prop} {k : Nat} (hk : k < 400) (hb : 0 ≤ bk (rf q S 6 k) ∧ bk (rf q S 6 k) < 4) (h1 : rf q S 2 (bk (rf q S 6 k)).toNat = Int.tdiv (rf q S 6 k) 64 → Q 1 S) (h0 : ¬ rf q S 2 (bk (rf q S 6 k)).toNat = Int.tdiv (rf q S 6 k) 64 → Q 0 S) : PT_X12_isOpen V q (k : Int) S Q := by
  unfold PT_X12_isOpen PT_X12_bankOf PT_X12_rowOf
  rw [tn, rfa 6 k (by decide)]
  refine ⟨by omega, hb, by omega, ?_⟩
  rw [rfa 2 _ (by decide)]
  exact ⟨h0, h1⟩
theorem p_rankR {V : Vt} {q : Nat} {S : Me} {Q : Int → Me → Prop} {k : Nat} (hr : rA (rf q S)) (hs : rS (rf q S)) (hd : ∀ a, a < 4 → 0 ≤ rf q S 12 a ∧ rf q S 12 a ≤ 300000) (hk : pw (rf q S) k) (h : Q (rk (rf q S) k) S) : PT_X12_rank V q (k : Int) S Q := by
  have hk4 : k < 400 := by have := hk.1.1; have := hr.1; omega
  obtain ⟨-, r5, r6, -⟩ := hr.2.2 k hk.1.1
  have r6 : 0 ≤ rf q S 6 k ∧ rf q S 6 k < 1024 := by
    rcases r6 with z | z
    · exact absurd z.1 hk.2
    · exact z.2
  have hb := bk_b r6.1 r6.2
  have ho := hs.2.2.2.1
  have hd5 := hd (rf q S 5 k).toNat (by omega)
  unfold PT_X12_rank
  rw [rf0 4 (by decide), rf0 25 (by decide), rf0 5 (by decide)]
  have b28 : ¬ (rf q S 0 4 = 0 ∨ (rf q S 0 4 = 1 ∧ rf q S 0 5 ≤ rf q S 0 25)) → B_X12_rank_28 V q (k : Int) S Q := by
    intro hno
    unfold B_X12_rank_28
    rw [rf0 4 (by decide), tn, rfa 5 k (by decide), rfa 12 _ (by decide)]
    refine ⟨fun z => ⟨by omega, r5, by unfold rng; omega, by omega, by unfold rng; omega, ?_⟩, fun z => ?_⟩
    · have : rk (rf q S) k = 4 * rf q S 12 (rf q S 5 k).toNat + rf q S 5 k := by
        unfold rk
        rw [if_neg hno, if_neg z]
      rw [← this]; exact h
    · have e : rk (rf q S) k = if rf q S 2 (bk (rf q S 6 k)).toNat = Int.tdiv (rf q S 6 k) 64 then 0 else 1 := by
        unfold rk
        rw [if_neg hno, if_pos z]
      rw [e] at h
      exact p_isOpen hk4 hb (fun g => ⟨fun w => absurd w (by decide), fun _ => by rw [if_pos g] at h; exact h⟩) (fun g => ⟨fun _ => by rw [if_neg g] at h; exact h, fun w => absurd rfl w⟩)
  have z0 : (rf q S 0 4 = 0 ∨ (rf q S 0 4 = 1 ∧ rf q S 0 5 ≤ rf q S 0 25)) → Q 0 S := by
    intro z
    have : rk (rf q S) k = 0 := by
      unfold rk
      rw [if_pos z]
    rw [← this]; exact h
  exact ⟨fun z => z0 (Or.inl z), fun z => ⟨fun z1 => b28 (by omega), fun z1 => ⟨fun z2 => b28 (by omega), fun z2 => z0 (Or.inr ⟨z1, by omega⟩)⟩⟩⟩
/-- the array g holds the list l -/
def aL (g : Nat → Int) (l : List Nat) : Prop := ∀ (i x : Nat), l[i]? = some x → g i = (x : Int)
theorem aL_in {g : Nat → Int} {pre post : List Nat} {k : Nat} (h1 : aL g pre) (h2 : g pre.length = (k : Int)) (h3 : ∀ (i x : Nat), post[i]? = some x → g (pre.length + 1 + i) = (x : Int)) : aL g (pre ++ k :: post) := by
  intro i x hx
  rcases Nat.lt_trichotomy i pre.length with z | z | z
  · rw [List.getElem?_append_left z] at hx
    exact h1 i x hx
  · subst z
    rw [List.getElem?_append_right (Nat.le_refl _)] at hx
    simp at hx
    rw [h2, hx]
  · rw [List.getElem?_append_right (by omega)] at hx
    obtain ⟨d, rfl⟩ : ∃ d, i = pre.length + 1 + d := ⟨i - pre.length - 1, by omega⟩
    rw [show pre.length + 1 + d - pre.length = d + 1 by omega, List.getElem?_cons_succ] at hx
    exact h3 d x hx
/-- findOrder writes row0 and ordered alone -/
def fO (q : Nat) (S S' : Me) : Prop := S'.2 = S.2 ∧ ∀ a k, ¬ (a = q ∧ k = 39) → a ≠ q + 22 → S'.1 a k = S.1 a k
theorem fO_rf {q : Nat} {S S' : Me} (h : fO q S S') : rf q S' = rf q S := by
  funext a k
  unfold rf
  by_cases e : scr a k
  · rw [if_pos e, if_pos e]
  · rw [if_neg e, if_neg e, h.2 _ _ (by unfold scr at e; omega) (by unfold scr at e; omega)]
theorem fO_fR {q : Nat} {S S' : Me} (h : fO q S S') : fR q S S' := ⟨h.1, fun a ha => funext fun k => h.2 a k (by omega) (by omega)⟩
theorem p_findOrder {V : Vt} {q : Nat} {S : Me} {Q : Me → Prop} (hr : rA (rf q S)) (hs : rS (rf q S)) (hd : ∀ a, a < 4 → 0 ≤ rf q S 12 a ∧ rf q S 12 a ≤ 300000)
    (k : ∀ S', fO q S S' → S'.1 q 39 = ((ord (rf q S)).length : Int) → aL (S'.1 (q + 22)) (ord (rf q S)) → Q S') : PT_X12_findOrder V q S Q := by
  intro S0 e0
  have h13 := hr.1
  have key : ∀ (fu i : Nat) (S1 : Me), nA_ (rf q S) - i < fu → i ≤ nA_ (rf q S) → fO q S S1 → S1.1 q 39 = ((ordN (rf q S) i).length : Int) → aL (S1.1 (q + 22)) (ordN (rf q S) i) → B_X12_findOrder_7 V q Q fu (i : Int) S1 := by
    intro fu
    induction fu with
    | zero => intro i S1 a; omega
    | succ fu ih =>
      intro i S1 hf hi hO g1 g2
      have e1 := fO_rf hO
      unfold B_X12_findOrder_7
      rw [rf0 13 (by decide), e1]
      refine ⟨fun z => ?_, fun z => p_waits (by omega) (fun zw => ?_) (fun zw => ?_)⟩
      · have : i = nA_ (rf q S) := by unfold nA_ at hi ⊢; omega
        subst this
        exact k S1 hO g1 g2
      · have hi1 : i < nA_ (rf q S) := by unfold nA_; omega
        rw [e1] at zw
        refine ⟨fun w => absurd w (by decide), fun _ => ⟨by omega, fun w4 => ?_, fun w4 => ?_⟩⟩
        · rw [tn, rfa 4 i (by decide), e1] at w4
          have hpi : pw (rf q S) i := ⟨⟨by omega, zw⟩, w4⟩
          have so : ordN (rf q S) (i + 1) = ins (rk (rf q S)) i (ordN (rf q S) i) := by rw [ordN, if_pos ⟨zw, w4⟩]
          have l12 : (ordN (rf q S) i).length < 12 := by
            have := ordN_12 hr (i := i + 1) (by unfold nA_ at hi ⊢; omega)
            rw [so, ins_len] at this
            omega
          -- the place is found
          have put : ∀ (S2 : Me) (pre post : List Nat), fO q S S2 → S2.1 q 39 = ((ordN (rf q S) i).length : Int) → ordN (rf q S) i = pre ++ post → aL (S2.1 (q + 22)) pre → (∀ (j x : Nat), post[j]? = some x → S2.1 (q + 22) (pre.length + 1 + j) = (x : Int)) → (∀ x ∈ pre, rk (rf q S) x ≤ rk (rf q S) i) → (∀ x ∈ post, rk (rf q S) i < rk (rf q S) x) → B_X12_findOrder_85 V q (B_X12_findOrder_7 V q Q fu) (i : Int) (pre.length : Int) S2 Q := by
            intro S2 pre post hO2 u1 u2 u3 u4 u5 u6
            have hl : pre.length < 12 := by
              rw [u2] at l12
              simp only [List.length_append] at l12
              omega
            have ei : ins (rk (rf q S)) i (ordN (rf q S) i) = pre ++ i :: post := by rw [u2]; exact ins_eq u5 u6
            unfold B_X12_findOrder_85
            rw [tn]
            refine ⟨by omega, fun S3 e3 => ?_⟩
            have v39 : S3.1 q 39 = ((ordN (rf q S) i).length : Int) := by rw [e3, sI_na (by omega), u1]
            rw [v39]
            refine ⟨by unfold rng; omega, fun S6 e6 => ⟨by unfold rng; omega, ih (i + 1) S6 (by omega) (by omega) ?_ ?_ ?_⟩⟩
            · refine ⟨by rw [e6, sI_2, e3, sI_2, hO2.1], fun a b h1 h2 => ?_⟩
              rw [e6, sI_ne (by omega), e3, sI_na h2, hO2.2 a b h1 h2]
            · rw [e6, sI_eq, so, ins_len]
              omega
            · rw [so, ei]
              have e22 : S6.1 (q + 22) = S3.1 (q + 22) := by rw [e6, sI_na (by omega)]
              rw [e22]
              refine aL_in (fun j x hx => ?_) ?_ (fun j x hx => ?_)
              · have hj : j < pre.length := (List.getElem?_eq_some_iff.mp hx).1
                rw [e3, sI_ne (by omega)]
                exact u3 j x hx
              · rw [e3, sI_eq]
              · rw [e3, sI_ne (by omega)]
                exact u4 j x hx
          have lp : ∀ (f2 : Nat) (pre post : List Nat) (S2 : Me), pre.length < f2 → fO q S S2 → S2.1 q 39 = ((ordN (rf q S) i).length : Int) → ordN (rf q S) i = pre ++ post → aL (S2.1 (q + 22)) pre → (∀ (j x : Nat), post[j]? = some x → S2.1 (q + 22) (pre.length + 1 + j) = (x : Int)) → (∀ x ∈ post, rk (rf q S) i < rk (rf q S) x) → B_X12_findOrder_41 V q (B_X12_findOrder_7 V q Q fu) Q f2 (i : Int) (pre.length : Int) S2 := by
            intro f2
            induction f2 with
            | zero => intro pre post S2 a; omega
            | succ f2 ih2 =>
              intro pre post S2 hf2 hO2 u1 u2 u3 u4 u6
              have e2 := fO_rf hO2
              unfold B_X12_findOrder_41
              rcases List.eq_nil_or_concat pre with ep | ⟨p, a, ep⟩
              · subst ep
                exact ⟨fun _ => put S2 [] post hO2 u1 u2 u3 u4 (fun x hx => by cases hx) u6, fun w => absurd (Int.le_refl 0) w⟩
              · have ep : pre = p ++ [a] := by rw [ep]; simp
                subst ep
                have hlen : (p ++ [a]).length = p.length + 1 := by simp
                have hin : a ∈ ordN (rf q S) i := by rw [u2]; simp
                have ha := ordN_m i a hin
                have hpa : pw (rf q S) a := ⟨⟨by omega, ha.2.1⟩, ha.2.2⟩
                have ga : S2.1 (q + 22) p.length = (a : Int) := u3 p.length a (by simp)
                have hl : p.length + 1 + post.length < 12 := by
                  rw [u2] at l12
                  simp only [List.length_append, List.length_cons, List.length_nil] at l12
                  omega
                rw [hlen]
                refine ⟨fun w => by omega, fun _ => ⟨by unfold rng; omega, by omega, ?_⟩⟩
                have et : Int.toNat (((p.length + 1 : Nat) : Int) - 1) = p.length := by omega
                rw [et, ga]
                have hA2 : rA (rf q S2) := by rw [e2]; exact hr
                have hS2 : rS (rf q S2) := by rw [e2]; exact hs
                have hD2 : ∀ a, a < 4 → 0 ≤ rf q S2 12 a ∧ rf q S2 12 a ≤ 300000 := by rw [e2]; exact hd
                refine p_rankR hA2 hS2 hD2 (by rw [e2]; exact hpa) (p_rankR hA2 hS2 hD2 (by rw [e2]; exact hpi) ?_)
                rw [e2]
                refine ⟨fun w => ?_, fun w => ?_⟩
                · have := put S2 (p ++ [a]) post hO2 u1 u2 u3 u4 (fun x hx => ?_) u6
                  · rw [hlen] at this; exact this
                  · rcases List.mem_append.mp hx with y | y
                    · have hsr := ordN_s (R := rf q S) i
                      unfold srt at hsr
                      rw [u2] at hsr
                      have := (List.pairwise_append.mp (List.pairwise_append.mp hsr).1).2.2 x y a (by simp)
                      omega
                    · rw [List.mem_singleton.mp y]; exact w
                · refine ⟨by unfold rng; omega, by omega, by omega, fun S3 e3 => ⟨by unfold rng; omega, ?_⟩⟩
                  rw [show ((p.length + 1 : Nat) : Int) + -1 = (p.length : Int) by omega]
                  rw [tn] at e3
                  refine ih2 p (a :: post) S3 (by simp at hf2; omega) ?_ ?_ (by rw [u2]; simp) (fun j x hx => ?_) (fun j x hx => ?_) (fun x hx => ?_)
                  · refine ⟨by rw [e3, sI_2, hO2.1], fun a b h1 h2 => ?_⟩
                    rw [e3, sI_na h2, hO2.2 a b h1 h2]
                  · rw [e3, sI_na (by omega), u1]
                  · have hj : j < p.length := (List.getElem?_eq_some_iff.mp hx).1
                    rw [e3, sI_ne (by omega)]
                    exact u3 j x (by rw [List.getElem?_append_left hj]; exact hx)
                  · cases j with
                    | zero =>
                      simp at hx
                      rw [e3, Nat.add_zero, sI_eq, ga, hx]
                    | succ j =>
                      rw [List.getElem?_cons_succ] at hx
                      rw [e3, sI_ne (by omega)]
                      have := u4 j x hx
                      rw [hlen] at this
                      rw [show p.length + 1 + (j + 1) = p.length + 1 + 1 + j by omega]
                      exact this
                  · rcases List.mem_cons.mp hx with y | y
                    · rw [y]; omega
                    · exact u6 x y
          refine ⟨(ordN (rf q S) i).length + 1, ?_⟩
          rw [g1]
          exact lp _ (ordN (rf q S) i) [] S1 (by omega) hO g1 (by simp) g2 (fun j x hx => by simp at hx) (fun x hx => by cases hx)
        · rw [tn, rfa 4 i (by decide), e1] at w4
          have so : ordN (rf q S) (i + 1) = ordN (rf q S) i := by rw [ordN, if_neg (fun y => y.2 w4)]
          exact ⟨by unfold rng; omega, ih (i + 1) S1 (by omega) (by omega) hO (by rw [so]; exact g1) (by rw [so]; exact g2)⟩
      · have hi1 : i < nA_ (rf q S) := by unfold nA_; omega
        rw [e1] at zw
        have so : ordN (rf q S) (i + 1) = ordN (rf q S) i := by rw [ordN, if_neg (fun y => zw y.1)]
        exact ⟨fun _ => ⟨by unfold rng; omega, ih (i + 1) S1 (by omega) (by omega) hO (by rw [so]; exact g1) (by rw [so]; exact g2)⟩, fun w => absurd rfl w⟩
  refine ⟨nA_ (rf q S) + 1, key (nA_ (rf q S) + 1) 0 S0 (by omega) (by omega) ⟨by rw [e0, sI_2], fun a b h1 h2 => by rw [e0, sI_ne (by omega)]⟩ (by rw [e0, sI_eq]; rfl) (fun i x hx => by simp [ordN] at hx)⟩

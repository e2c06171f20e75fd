/-! ===== PURE PART: what is chosen; RowBank.choose ===== -/
def can (R : Rm) (is b : Int) : Prop := stR R is b ∧ ftR R is b (R 0 6)
theorem can_4 {R : Rm} {b b' : Int} (h : can R 4 b) : can R 4 b' := ⟨⟨fun e => h.1.1 e, fun e => absurd e (by decide), fun e => absurd rfl e⟩, ftR_4 h.2⟩
/-- NEXT of the k-th -/
def cmd (R : Rm) (k : Nat) : Int := if R 2 (bk (R 6 k)).toNat = Int.tdiv (R 6 k) 64 then (if R 4 k = 0 then 2 else 3) else if 0 ≤ R 2 (bk (R 6 k)).toNat then 1 else 0
def gdP (R : Rm) (hp : Nat → Prop) (pre : List Nat) (x : Nat) : Prop := ¬ hp x ∧ (1 < cmd R x ∨ ∀ y ∈ pre, ¬ bk (R 6 y) = bk (R 6 x) ∨ hp y) ∧ can R (cmd R x) (bk (R 6 x))
/-- the first of l, behind pre, that may go -/
def Pk (R : Rm) (hp : Nat → Prop) : List Nat → List Nat → Option Nat → Prop
  | _, [], r => r = none
  | pre, x :: l, r => (gdP R hp pre x ∧ r = some x) ∨ (¬ gdP R hp pre x ∧ Pk R hp (pre ++ [x]) l r)
theorem Pk_u {R : Rm} {hp : Nat → Prop} : ∀ (l pre : List Nat) (r r' : Option Nat), Pk R hp pre l r → Pk R hp pre l r' → r = r'
  | [], _, _, _, h, h' => Eq.trans h (Eq.symm h')
  | x :: l, pre, r, r', h, h' => by
    rcases h with ⟨a, b⟩ | ⟨a, b⟩
    · rcases h' with ⟨c, d⟩ | ⟨c, d⟩
      · rw [b, d]
      · exact absurd a c
    · rcases h' with ⟨c, d⟩ | ⟨c, d⟩
      · exact absurd c a
      · exact Pk_u l _ r r' b d
theorem Pk_c {R : Rm} {hp hp' : Nat → Prop} : ∀ (l pre : List Nat) (r : Option Nat), (∀ x ∈ pre, (hp x ↔ hp' x)) → (∀ x ∈ l, (hp x ↔ hp' x)) → Pk R hp pre l r → Pk R hp' pre l r
  | [], _, _, _, _, h => h
  | x :: l, pre, r, h1, h2, h => by
    have hx := h2 x List.mem_cons_self
    have e : gdP R hp pre x ↔ gdP R hp' pre x := by
      unfold gdP
      constructor
      · rintro ⟨a, b, d⟩
        refine ⟨fun z => a (hx.mpr z), b.imp id (fun b y hy => (b y hy).imp id (h1 y hy).mp), d⟩
      · rintro ⟨a, b, d⟩
        refine ⟨fun z => a (hx.mp z), b.imp id (fun b y hy => (b y hy).imp id (h1 y hy).mpr), d⟩
    rcases h with ⟨a, b⟩ | ⟨a, b⟩
    · exact Or.inl ⟨e.mp a, b⟩
    · refine Or.inr ⟨fun z => a (e.mpr z), Pk_c l _ r (fun y hy => ?_) (fun y hy => h2 y (List.mem_cons_of_mem _ hy)) b⟩
      rcases List.mem_append.mp hy with w | w
      · exact h1 y w
      · rw [List.mem_singleton.mp w]; exact hx
theorem Pk_m {R : Rm} {hp : Nat → Prop} : ∀ (l pre : List Nat) (x : Nat), Pk R hp pre l (some x) → x ∈ l ∧ ¬ hp x ∧ can R (cmd R x) (bk (R 6 x))
  | [], _, _, h => by cases h
  | y :: l, pre, x, h => by
    rcases h with ⟨a, b⟩ | ⟨a, b⟩
    · cases b
      exact ⟨List.mem_cons_self, a.1, a.2.2⟩
    · have := Pk_m l _ x b
      exact ⟨List.mem_cons_of_mem _ this.1, this.2⟩
/-- a refresh is due -/
def Rfs (R : Rm) (w : Int) : Prop := R 0 3 ≤ w ∨ (0 < w ∧ ∀ k, ¬ pw R k)
def Crf (R : Rm) (cm bb : Int) : Prop := (can R 4 0 ∧ cm = 4 ∧ bb = -2) ∨ (¬ can R 4 0 ∧ ((∃ x : Nat, x < 4 ∧ can R 1 (x : Int) ∧ (∀ y : Nat, y < x → ¬ can R 1 (y : Int)) ∧ cm = 1 ∧ bb = (x : Int)) ∨ ((∀ x : Nat, x < 4 → ¬ can R 1 (x : Int)) ∧ cm = -2 ∧ bb = -2)))
/-- the command, its bank, its Ask -/
def Cho (R : Rm) (hp : Nat → Prop) (w : Int) (cm bb : Int) (a : Option Nat) : Prop := (Rfs R w ∧ Crf R cm bb ∧ a = none) ∨ (¬ Rfs R w ∧ ((Pk R hp [] (ord R) none ∧ cm = -2 ∧ bb = -2 ∧ a = none) ∨ ∃ x, Pk R hp [] (ord R) (some x) ∧ cm = cmd R x ∧ bb = bk (R 6 x) ∧ a = some x))
theorem Crf_u {R : Rm} {cm bb cm' bb' : Int} (h : Crf R cm bb) (h' : Crf R cm' bb') : cm = cm' ∧ bb = bb' := by
  rcases h with ⟨a, b⟩ | ⟨a, b⟩ <;> rcases h' with ⟨a', b'⟩ | ⟨a', b'⟩
  · exact ⟨b.1.trans b'.1.symm, b.2.trans b'.2.symm⟩
  · exact absurd a a'
  · exact absurd a' a
  · rcases b with ⟨x, x1, x2, x3, x4, x5⟩ | ⟨x1, x2⟩ <;> rcases b' with ⟨y, y1, y2, y3, y4, y5⟩ | ⟨y1, y2⟩
    · have : x = y := by
        rcases Nat.lt_trichotomy x y with z | z | z
        · exact absurd x2 (y3 x z)
        · exact z
        · exact absurd y2 (x3 y z)
      subst this
      exact ⟨x4.trans y4.symm, x5.trans y5.symm⟩
    · exact absurd x2 (y1 x x1)
    · exact absurd y2 (x1 y y1)
    · exact ⟨x2.1.trans y2.1.symm, x2.2.trans y2.2.symm⟩
theorem Cho_u {R : Rm} {hp : Nat → Prop} {w cm bb cm' bb' : Int} {a a' : Option Nat} (h : Cho R hp w cm bb a) (h' : Cho R hp w cm' bb' a') : cm = cm' ∧ bb = bb' ∧ a = a' := by
  rcases h with ⟨r, h, e⟩ | ⟨r, h⟩ <;> rcases h' with ⟨r', h', e'⟩ | ⟨r', h'⟩
  · have := Crf_u h h'
    exact ⟨this.1, this.2, e.trans e'.symm⟩
  · exact absurd r r'
  · exact absurd r' r
  · rcases h with ⟨p, e1, e2, e3⟩ | ⟨x, p, e1, e2, e3⟩ <;> rcases h' with ⟨p', f1, f2, f3⟩ | ⟨x', p', f1, f2, f3⟩
    · exact ⟨e1.trans f1.symm, e2.trans f2.symm, e3.trans f3.symm⟩
    · cases Pk_u _ _ _ _ p p'
    · cases Pk_u _ _ _ _ p p'
    · cases Pk_u _ _ _ _ p p'
      exact ⟨e1.trans f1.symm, e2.trans f2.symm, e3.trans f3.symm⟩
theorem mk_all : ∀ (y : Fin 16) (b : Fin 4), (bAnd (bShr (y.val : Int) (b.val : Int)) 1 = 0 ∨ bAnd (bShr (y.val : Int) (b.val : Int)) 1 = 1) ∧ (0 ≤ bOr (y.val : Int) (bShl 1 (b.val : Int)) ∧ bOr (y.val : Int) (bShl 1 (b.val : Int)) < 16) ∧ ∀ b' : Fin 4, bAnd (bShr (bOr (y.val : Int) (bShl 1 (b.val : Int))) (b'.val : Int)) 1 = if b' = b then 1 else bAnd (bShr (y.val : Int) (b'.val : Int)) 1 := by decide +kernel
theorem mk_0 : ∀ b : Fin 4, bAnd (bShr 0 (b.val : Int)) 1 = 0 := by decide +kernel
/-- the bits of the mask y are those of which p says so -/
def mkP (y : Int) (p : Int → Prop) : Prop := (0 ≤ y ∧ y < 16) ∧ ∀ b : Int, 0 ≤ b → b < 4 → (bAnd (bShr y b) 1 = 1 ↔ p b)
theorem mkP_0 {p : Int → Prop} (h : ∀ b, ¬ p b) : mkP 0 p := by
  refine ⟨by omega, fun b b0 b1 => ⟨fun e => ?_, fun e => absurd e (h b)⟩⟩
  have := mk_0 ⟨b.toNat, by omega⟩
  rw [show ((⟨b.toNat, by omega⟩ : Fin 4).val : Int) = b by simp; omega] at this
  omega
theorem mkP_01 {y b : Int} (h : 0 ≤ y ∧ y < 16) (b0 : 0 ≤ b) (b1 : b < 4) : bAnd (bShr y b) 1 = 0 ∨ bAnd (bShr y b) 1 = 1 := by
  have := (mk_all ⟨y.toNat, by omega⟩ ⟨b.toNat, by omega⟩).1
  rwa [show ((⟨b.toNat, by omega⟩ : Fin 4).val : Int) = b by simp; omega, show ((⟨y.toNat, by omega⟩ : Fin 16).val : Int) = y by simp; omega] at this
theorem mkP_s {y b : Int} {p p' : Int → Prop} (h : mkP y p) (b0 : 0 ≤ b) (b1 : b < 4) (hp : ∀ b', p' b' ↔ p b' ∨ b' = b) : mkP (bOr y (bShl 1 b)) p' := by
  obtain ⟨hy, h⟩ := h
  have e1 : ((⟨b.toNat, by omega⟩ : Fin 4).val : Int) = b := by simp; omega
  have e2 : ((⟨y.toNat, by omega⟩ : Fin 16).val : Int) = y := by simp; omega
  obtain ⟨-, g1, g2⟩ := mk_all ⟨y.toNat, by omega⟩ ⟨b.toNat, by omega⟩
  rw [e1, e2] at g1
  refine ⟨g1, fun b' h0 h1 => ?_⟩
  have g := g2 ⟨b'.toNat, by omega⟩
  have e3 : ((⟨b'.toNat, by omega⟩ : Fin 4).val : Int) = b' := by simp; omega
  rw [e1, e2, e3] at g
  rw [g, hp b']
  by_cases e : b' = b
  · subst e
    rw [if_pos rfl]
    exact ⟨fun _ => Or.inr rfl, fun _ => rfl⟩
  · rw [if_neg (fun z => e (by have := congrArg Fin.val z; simp at this; omega)), h b' h0 h1]
    exact ⟨fun z => Or.inl z, fun z => z.elim id (fun z => absurd z e)⟩
/-- choose writes its two fields, rank and behind alone -/
def fC (o : Nat) (c : Nat → Nat) (n : Nat) (S S' : Me) : Prop := (∀ a k, ¬ (a = o ∧ k = 14) → ((∀ i, i < n → a ≠ c i) ∨ k ≠ 10) → S'.1 a k = S.1 a k) ∧ ∀ a k, ¬ (a = o ∧ k = 15) → ((∀ i, i < n → a ≠ c i) ∨ k ≠ 9) → S'.2 a k = S.2 a k
theorem fC_t {o : Nat} {c : Nat → Nat} {n : Nat} {S S1 S2 : Me} (h : fC o c n S S1) (h' : fC o c n S1 S2) : fC o c n S S2 := ⟨fun a k h1 h2 => (h'.1 a k h1 h2).trans (h.1 a k h1 h2), fun a k h1 h2 => (h'.2 a k h1 h2).trans (h.2 a k h1 h2)⟩
theorem fC_B {o : Nat} {c : Nat → Nat} {n : Nat} {S S' : Me} (h : fB c n S S') : fC o c n S S' := ⟨fun a k _ h2 => h.1 a k h2, fun a k _ h2 => h.2 a k h2⟩
theorem fC_1 {o : Nat} {c : Nat → Nat} {n : Nat} {S S' : Me} (h : fC o c n S S') {a : Nat} (ha : a ≠ o) (hc : ∀ i, i < n → a ≠ c i) : S'.1 a = S.1 a := funext fun k => h.1 a k (fun q => ha q.1) (Or.inl hc)
theorem fC_2 {o : Nat} {c : Nat → Nat} {n : Nat} {S S' : Me} (h : fC o c n S S') {a : Nat} (ha : a ≠ o) (hc : ∀ i, i < n → a ≠ c i) : S'.2 a = S.2 a := funext fun k => h.2 a k (fun q => ha q.1) (Or.inl hc)
theorem cF_c {S S' : Me} {p : Nat} (h : ∀ a, p ≤ a → a ≤ p + 7 → S'.1 a = S.1 a) : cF S' p = cF S p := by
  funext r c b
  unfold cF
  rw [h p (by omega) (by omega), h (p + 1) (by omega) (by omega), h (p + 2) (by omega) (by omega), h (p + 3) (by omega) (by omega), h (p + 4) (by omega) (by omega), h (p + 5) (by omega) (by omega), h (p + 6) (by omega) (by omega), h (p + 7) (by omega) (by omega)]
theorem f4_c {S S' : Me} {p : Nat} (h : ∀ a, p ≤ a → a ≤ p + 7 → S'.1 a = S.1 a) : f4 S' p = f4 S p := by
  funext j
  unfold f4
  rw [h p (by omega) (by omega), h (p + 7) (by omega) (by omega)]
theorem jP_c {o : Nat} {S S' : Me} {R : Rm} (h : ∀ a, o + 2 ≤ a → a ≤ o + 9 → S'.1 a = S.1 a) (hP : jP o S R) : jP o S' R := by
  unfold jP PL
  rw [cF_c (fun a a1 a2 => h a a1 (by omega)), f4_c (fun a a1 a2 => h a a1 (by omega)), h (o + 2) (by omega) (by omega)]
  exact hP
theorem jI_fC {o : Nat} {V : Vt} {S S' : Me} {c : Nat → Nat} {R : Rm} (h : jI o V S c R) (hf : fC o c (nA_ R) S S') : jI o V S' c R := by
  obtain ⟨hV, hS, hP, hG, hL, hrL, hM, hrM, hA, hrA, hrO, hQ, hW, hH, hs⟩ := h
  have lo : ∀ {a : Nat}, a < o + 73 → a ≠ o → S'.1 a = S.1 a := fun h1 h2 => fC_1 hf h2 (cA_lo hA hrA h1)
  have lo2 : ∀ {a : Nat}, a < o + 73 → a ≠ o → S'.2 a = S.2 a := fun h1 h2 => fC_2 hf h2 (cA_lo hA hrA h1)
  have l0 : ∀ k, k ≠ 14 → S'.1 o k = S.1 o k := fun k hk => hf.1 o k (fun q => hk q.2) (Or.inl (cA_lo hA hrA (by omega)))
  have la : ∀ i : Nat, (i : Int) < R 0 13 → ∀ k, k ≠ 10 → S'.1 (c i) k = S.1 (c i) k := fun i hi k hk => hf.1 _ _ (fun q => by have := (hA i hi).1.2.1; omega) (Or.inr hk)
  have la2 : ∀ i : Nat, (i : Int) < R 0 13 → ∀ k, k ≠ 9 → S'.2 (c i) k = S.2 (c i) k := fun i hi k hk => hf.2 _ _ (fun q => by have := (hA i hi).1.2.1; omega) (Or.inr hk)
  refine ⟨hV, ⟨?_, ?_⟩, jP_c (fun a a1 a2 => lo (by omega) (by omega)) hP, hG, ?_, hrL, ?_, hrM, fun i hi => ?_, hrA, hrO, ⟨?_, ?_, ?_⟩, ?_, ?_, hs⟩
  · rw [l0 6 (by decide), l0 7 (by decide), l0 8 (by decide), l0 9 (by decide), l0 10 (by decide), l0 11 (by decide), l0 12 (by decide), l0 13 (by decide)]
    exact hS.1
  · rw [lo (by omega) (by omega)]; exact hS.2
  · unfold jL
    rw [lo (a := o + 10) (by omega) (by omega), lo (a := o + 10 + 1) (by omega) (by omega), lo (a := o + 10 + 2) (by omega) (by omega), lo (a := o + 10 + 3) (by omega) (by omega), lo (a := o + 10 + 4) (by omega) (by omega), lo (a := o + 10 + 5) (by omega) (by omega), lo (a := o + 10 + 6) (by omega) (by omega)]
    exact hL
  · unfold jM
    rw [lo (a := o + 25 + 1) (by omega) (by omega), lo (a := o + 25 + 2) (by omega) (by omega)]
    exact hM
  · have g := hA i hi
    rw [la i hi 0 (by decide), la i hi 1 (by decide), la i hi 2 (by decide), la i hi 3 (by decide), la i hi 4 (by decide), la i hi 5 (by decide), la i hi 6 (by decide), la i hi 7 (by decide), la i hi 11 (by decide), la i hi 12 (by decide), lo2 (a := o + 28 + 1) (by omega) (by omega)]
    exact g
  · rw [lo (a := o + 28) (by omega) (by omega)]; exact hQ.1
  · rw [lo (a := o + 28 + 3) (by omega) (by omega)]; exact hQ.2.1
  · unfold Cn
    rw [lo2 (a := o + 28) (by omega) (by omega)]
    refine ⟨hQ.2.2.1, fun i hi => ?_, hQ.2.2.2.2⟩
    rw [la2 i hi.1 8 (by decide)]
    exact hQ.2.2.2.1 i hi
  · unfold jW
    rw [lo (a := o + 28 + 4) (by omega) (by omega)]; exact hW
  · obtain ⟨h1, h2, h3⟩ := hH
    have ld : ∀ d, d < 8 → S'.2 (o + 34 + d) = S.2 (o + 34 + d) := fun d hd => lo2 (by omega) (by omega)
    refine ⟨by rw [lo2 (a := o + 33) (by omega) (by omega)]; exact h1, fun d hd => ?_, fun d d' e hd hd' => by rw [ld d hd, ld d' hd']; exact h3 d d' e hd hd'⟩
    have g := h2 d hd
    rw [ld d hd]
    rcases g with g | g | ⟨g1, g2, e, g3, g4, g5, g6, g7, g8, g9, g10⟩
    · exact Or.inl g
    · exact Or.inr (Or.inl g)
    · refine Or.inr (Or.inr ⟨g1, g2, e, g3, g4, g5, g6, g7, g8, by rw [lo (by omega) (by omega)]; exact g9, fun i hi => ?_⟩)
      have : S'.1 e = S.1 e := fC_1 hf (by omega) (fun i hi q => by
        have := (hA i ((nA_i hrA i).mp hi)).1.2.2.2.1
        rw [← q, g6] at this
        exact absurd this (by decide))
      rw [this]
      exact g10 i hi
theorem gB_c {o : Nat} {S S' : Me} {R : Rm} {n : Int} (h : S'.1 (o + 28) = S.1 (o + 28)) (hg : gB o S R n) : gB o S' R n := by
  unfold gB
  rw [h]
  exact hg

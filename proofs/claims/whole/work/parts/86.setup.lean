/-! ===== THE LAW: what its premises give at the entry ===== -/
section ST
variable {s : State} {b : Nat} {A : Nat → Prop}
theorem FT.at {A B : Nat → Prop} {u U : State} {H H1 : Heap} (h : FT A u H) (hvm : u.vm.Alike U.vm) (hq : ∀ a : Nat, a < H.size → ¬ A a → H1[a]? = H[a]?) (hAB : ∀ q, B q → A q) : FT B U H1 := by
  obtain ⟨b, h1, h2⟩ := h
  exact ⟨b, ((h1.moved hvm).kept hq).narrow hAB, ((h2.moved hvm).kept hq).narrow hAB⟩
theorem nw_in : ∀ w ∈ NW, w ∈ lw_tbl := by decide +kernel
theorem nw_at (hts : ∀ w ∈ lw_tbl, w.before #[Value.ref b] s = true) : ∀ w ∈ NW, va_Nw w s := by
  intro w hw
  have h9 := hts w (nw_in w hw)
  unfold NW at hw
  simp only [List.mem_cons, List.not_mem_nil, or_false] at hw
  rcases hw with rfl | rfl | rfl | rfl | rfl | rfl | rfl | rfl | rfl | rfl | rfl | rfl | rfl | rfl | rfl | rfl | rfl | rfl | rfl | rfl | rfl | rfl | rfl
  all_goals first | exact va_tabs rfl rfl h9 | exact va_AO.of h9
theorem arrI (hts : ∀ w ∈ lw_tbl, w.before #[Value.ref b] s = true) {ty : FieldType} (hin : Cond.arrayClass ty ∈ UW) (hty : ∀ C, ty ≠ .object C) : ∃ cA, ArrOfT s cA ty ∧ va_RA s cA ty := by
  obtain ⟨cA, kA, comp, h1, h2, h3⟩ := Cond.arrayClass_spec (hts _ (List.mem_filter.mp hin).1)
  refine ⟨cA, fun N z => ⟨(fun k h => by cases h), kA, h2, comp, h3⟩, ?_⟩
  cases ty with
  | object C => exact absurd rfl (hty C)
  | _ => exact h1
theorem arrR {C : String} (h : va_AO C s) : ∃ cA, ArrOfT s cA (.object C) ∧ va_RA s cA (.object C) := by
  obtain ⟨comp, cA, kA, h1, -, h2, h3, h4⟩ := Cond.arrayOver_spec h
  exact ⟨cA, fun N z => ⟨(fun k h => by cases h), kA, h2, comp, h3⟩, kA, comp, h2, h3, h1, h4⟩
theorem kx_at (hts : ∀ w ∈ lw_tbl, w.before #[Value.ref b] s = true) : ∃ (D : va_G) (cy : ClassId × ClassId × ClassId × ClassId), Kx D cy s := by
  have hn := nw_at hts
  have hu : ∀ w ∈ UW, w.before #[Value.ref b] s = true := fun w hw => hts w (List.mem_filter.mp hw).1
  have key : ∀ k : Nat, ∃ (cC : ClassId) (iS : Nat → Nat), ∀ q : vw_C, vwCl[k]? = some q → u_Kn s q.1 q.2.1 q.2.2 cC iS := by
    intro k
    match k with
    | 0 => obtain ⟨c, i, h⟩ := u_known hu iu0 (hu (.instantiable RX1 9) uw_84); exact ⟨c, i, fun q hq => by cases hq; exact h⟩
    | 1 => obtain ⟨c, i, h⟩ := u_known (n := 11) hu iu1 (hts _ (by decide +kernel)); exact ⟨c, i, fun q hq => by cases hq; exact h⟩
    | 2 => obtain ⟨c, i, h⟩ := u_known (n := 13) hu iu2 (hts _ (by decide +kernel)); exact ⟨c, i, fun q hq => by cases hq; exact h⟩
    | 3 => obtain ⟨c, i, h⟩ := u_known (n := 2) hu iu3 (hts _ (by decide +kernel)); exact ⟨c, i, fun q hq => by cases hq; exact h⟩
    | 4 => obtain ⟨c, i, h⟩ := u_known (n := 12) hu iu4 (hts _ (by decide +kernel)); exact ⟨c, i, fun q hq => by cases hq; exact h⟩
    | 5 => obtain ⟨c, i, h⟩ := u_known (n := 11) hu iu5 (hts _ (by decide +kernel)); exact ⟨c, i, fun q hq => by cases hq; exact h⟩
    | 6 => obtain ⟨c, i, h⟩ := u_known (n := 11) hu iu6 (hts _ (by decide +kernel)); exact ⟨c, i, fun q hq => by cases hq; exact h⟩
    | 7 => obtain ⟨c, i, h⟩ := u_known (n := 3) hu iu7 (hts _ (by decide +kernel)); exact ⟨c, i, fun q hq => by cases hq; exact h⟩
    | 8 => obtain ⟨c, i, h⟩ := u_known (n := 12) hu iu8 (hts _ (by decide +kernel)); exact ⟨c, i, fun q hq => by cases hq; exact h⟩
    | 9 => obtain ⟨c, i, h⟩ := u_known (n := 12) hu iu9 (hts _ (by decide +kernel)); exact ⟨c, i, fun q hq => by cases hq; exact h⟩
    | 10 => obtain ⟨c, i, h⟩ := u_known (n := 16) hu iu10 (hts _ (by decide +kernel)); exact ⟨c, i, fun q hq => by cases hq; exact h⟩
    | 11 => obtain ⟨c, i, h⟩ := u_known (n := 50) hu iu11 (hts _ (by decide +kernel)); exact ⟨c, i, fun q hq => by cases hq; exact h⟩
    | k + 12 => exact ⟨0, fun _ => 0, fun q hq => by simp at hq⟩
  obtain ⟨c0, a0, r0⟩ := arrI hts uwArrI (fun C h => by cases h)
  obtain ⟨c3, a3, r3⟩ := arrI hts uwArrL (fun C h => by cases h)
  obtain ⟨c1, a1, r1⟩ := arrR (s := s) (C := RX0) (va_AO.of (hn _ (by simp [NW])))
  obtain ⟨c2, a2, r2⟩ := arrR (s := s) (C := RX8) (va_AO.of (hn _ (by simp [NW])))
  refine ⟨(fun k => (key k).choose, fun k => (key k).choose_spec.choose), (c0, c1, c2, c3), ⟨fun k q hq => (key k).choose_spec.choose_spec q hq, fun k q hq => ?_⟩, hn⟩
  match k, hq with
  | 0, hq => cases hq; exact ⟨a0, r0⟩
  | 1, hq => cases hq; exact ⟨a1, r1⟩
  | 2, hq => cases hq; exact ⟨a2, r2⟩
  | 3, hq => cases hq; exact ⟨a3, r3⟩
  | k + 4, hq => simp [tyl] at hq
theorem sr_at (hts : ∀ w ∈ lw_tbl, w.before #[Value.ref b] s = true) {own tx : String} {k : Nat} (hin : Cond.stringRef own k tx ∈ lw_tbl) : ∃ a, vk_R own k tx a s := by
  have w := hts _ hin
  cases hc : s.vm.findClass own with
  | none => simp [Cond.before, Cond.holds, Cond.value, hc] at w
  | some cc =>
    obtain ⟨k1, cf, i, a, -, -, -, -, -, he⟩ := Cond.stringRef_spec hc w
    exact ⟨a, vk_R.of w he⟩
theorem sx_0 (hts : ∀ w ∈ lw_tbl, w.before #[Value.ref b] s = true) (hgv : (Jvm.Cond.and given_1 narrow_1).before #[Value.ref b] s = true) (hA : ∀ a : Nat, a < s.heap.size → ¬ A a) : SX A s s.heap := by
  have hs := flat_of_before _ hgv
  exact ⟨sr_at hts (by decide +kernel), sr_at hts (by decide +kernel), sr_at hts (by decide +kernel), sr_at hts (by decide +kernel), vx_Zqof (hts _ (by decide +kernel)) (hts _ (by decide +kernel)) (hs _ (by decide +kernel)) hA, vx_Zqof (hts _ (by decide +kernel)) (hts _ (by decide +kernel)) (hs _ (by decide +kernel)) hA⟩
theorem ft_0 (hts : ∀ w ∈ lw_tbl, w.before #[Value.ref b] s = true) (hgv : (Jvm.Cond.and given_1 narrow_1).before #[Value.ref b] s = true) (hA : ∀ a : Nat, a < s.heap.size → ¬ A a) : FT A s s.heap := by
  have hs := flat_of_before _ hgv
  have he : ∀ j : Nat, j < 13 → (Term.elem (.static "RowBank" "FIRST_TIMES" "[I") (.int (Int32.ofNat j))).eval #[Value.ref b] s none [] s = some (.int (Int32.ofInt (ft j))) := by
    intro j hj
    have hb : j = 0 ∨ j = 1 ∨ j = 2 ∨ j = 3 ∨ j = 4 ∨ j = 5 ∨ j = 6 ∨ j = 7 ∨ j = 8 ∨ j = 9 ∨ j = 10 ∨ j = 11 ∨ j = 12 := by omega
    rcases hb with rfl | rfl | rfl | rfl | rfl | rfl | rfl | rfl | rfl | rfl | rfl | rfl | rfl
    · exact Cond.eq_int (hs (.eq (.elem (.static "RowBank" "FIRST_TIMES" "[I") (.int 0)) (.int 3)) (by decide +kernel)) rfl
    · exact Cond.eq_int (hs (.eq (.elem (.static "RowBank" "FIRST_TIMES" "[I") (.int 1)) (.int 8)) (by decide +kernel)) rfl
    · exact Cond.eq_int (hs (.eq (.elem (.static "RowBank" "FIRST_TIMES" "[I") (.int 2)) (.int 3)) (by decide +kernel)) rfl
    · exact Cond.eq_int (hs (.eq (.elem (.static "RowBank" "FIRST_TIMES" "[I") (.int 3)) (.int 2)) (by decide +kernel)) rfl
    · exact Cond.eq_int (hs (.eq (.elem (.static "RowBank" "FIRST_TIMES" "[I") (.int 4)) (.int 4)) (by decide +kernel)) rfl
    · exact Cond.eq_int (hs (.eq (.elem (.static "RowBank" "FIRST_TIMES" "[I") (.int 5)) (.int 4)) (by decide +kernel)) rfl
    · exact Cond.eq_int (hs (.eq (.elem (.static "RowBank" "FIRST_TIMES" "[I") (.int 6)) (.int 2)) (by decide +kernel)) rfl
    · exact Cond.eq_int (hs (.eq (.elem (.static "RowBank" "FIRST_TIMES" "[I") (.int 7)) (.int 5)) (by decide +kernel)) rfl
    · exact Cond.eq_int (hs (.eq (.elem (.static "RowBank" "FIRST_TIMES" "[I") (.int 8)) (.int 6)) (by decide +kernel)) rfl
    · exact Cond.eq_int (hs (.eq (.elem (.static "RowBank" "FIRST_TIMES" "[I") (.int 9)) (.int 2)) (by decide +kernel)) rfl
    · exact Cond.eq_int (hs (.eq (.elem (.static "RowBank" "FIRST_TIMES" "[I") (.int 10)) (.int 12)) (by decide +kernel)) rfl
    · exact Cond.eq_int (hs (.eq (.elem (.static "RowBank" "FIRST_TIMES" "[I") (.int 11)) (.int 10)) (by decide +kernel)) rfl
    · exact Cond.eq_int (hs (.eq (.elem (.static "RowBank" "FIRST_TIMES" "[I") (.int 12)) (.int 3)) (by decide +kernel)) rfl
  obtain ⟨t, ht, hT⟩ := va_Tof (N := 13) (A := A) (by decide) (hs (.arrayOf (.static "RowBank" "FIRST_TIMES" "[I") .int) (by decide +kernel)) (Cond.eq_int (hs (.eq (.length (.static "RowBank" "FIRST_TIMES" "[I")) (.int 13)) (by decide +kernel)) rfl) he hA
  exact ⟨t, va_Zof (hts _ (by decide +kernel)) (hts _ (by decide +kernel)) ht hA, hT⟩
theorem nc_0 (hgv : (Jvm.Cond.and given_1 narrow_1).before #[Value.ref b] s = true) : va_Nc "java/lang/IllegalStateException" "java/lang/IllegalArgumentException" s := va_Nc.of (flat_of_before _ hgv (.not (.castable "java/lang/IllegalStateException" "java/lang/IllegalArgumentException")) (by decide +kernel))
end ST

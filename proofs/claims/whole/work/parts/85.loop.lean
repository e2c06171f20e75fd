/-! THE CLAIM OUT OF ONE WALK OF THE LAW'S BODY. Your part is whole_start (and what it stands on); all else here is the same for every law, but numbers. -/
def R_law : String := "RowBankLaw"
def lw_P (b : Addr) (xs : List Int32) (args : Array Value) (s : State) : Prop := args = #[.ref b] ∧ s.IntsAt b xs ∧ xs.length ≤ 3072 ∧ (Jvm.Cond.and given_1 narrow_1).before args s = true
def lw_Q (_ : Array Value) (s : State) (o : Outcome) (t : State) : Prop := o = .returned (some (.int 1)) ∧ Framed s o t [] 601024 7293033
def lw_Z (below : List Frame) (a : Array Value) (s : State) : State → Prop := fun t => ∃ o, t.status = .running ∧ Ended t below o ∧ lw_Q a s o t
/-- the law's own end, with 1 on the stack, nothing written that was there before, its room as the claim has it -/
theorem lw_ret {p : Program} {l : Launch} {e : Env} {s : State} {m : MethodId} {below : List Frame} {meth : Method} {c : Code} {b : Nat} (hx : p.tables.exec = Jvm.exec) (hb : c.code = code) (hr : meth.sig.returnType = ret) (hlocks : meth.locks = false) {pc : Nat} {H : Heap} {ls : Array Slot} (hdg : decode code pc = .ok (.ireturn, 1)) : W p l e room_1 s m #[Value.ref b] below meth c H [] 601024 7293033 (lw_Z below #[Value.ref b] s) (F0 m pc ls [.int 1]) := by
  intro T hT X
  obtain ⟨fs, hret, hrun, hended, hW, hframe⟩ := X.leave (v := some (.int 1)) (hlocks := hlocks) (fun h => by rw [hr] at h; cases h)
  have hmeth' : T.vm.method? m = some meth := X.method'
  refine ⟨T.setFrames fs, ?_, .returned (some (.int 1)), hrun, hended, rfl, ⟨_, rfl⟩, hW, hframe⟩
  jvm_step X.here [X.here.top, hx, hb, hdg, hmeth', hr, ret, narrow_b1]
  (try refine ⟨rfl, ?_⟩); (try refine ⟨rfl, ?_⟩)
  first | (intro acts; rw [hret _ acts rfl rfl rfl]) | rw [hret _ _ rfl rfl rfl]
  exact Steps.refl _
/-- what holds at the law's entry: the machine, the code, the tables' words (any of lw_tbl by 'hts w (by decide +kernel)'), the script of L ints xs at the cell b, what the Statement gives of the start (any of its parts by flat_of_before) -/
def lw_At (p : Program) (s : State) (m : MethodId) (meth : Method) (c : Code) (b L : Nat) (xs : Nat → Int32) : Prop :=
  p.tables.exec = Jvm.exec ∧ c.code = code ∧ meth.sig.returnType = ret ∧ c.maxLocals = 8 ∧ s.vm.findClass R_law = some m.cls ∧ (∀ w ∈ lw_tbl, w.before #[Value.ref b] s = true) ∧ va_X b L xs s s.heap ∧ b < s.heap.size ∧ meth.locks = false ∧ (Jvm.Cond.and given_1 narrow_1).before #[Value.ref b] s = true
/-! ===== THE LAW: its loop (written by wip/gen/loop.py) ===== -/
theorem oN_I (L : Nat) : Int32.ofNat L = Int32.ofInt (L : Int) := by
  first | rfl | simp | exact (Int32.ofInt_eq_ofNat).symm
set_option maxHeartbeats 4000000 in
set_option maxRecDepth 100000 in
theorem law_loop {p : Program} {l : Launch} {e : Env} {s : State} {m : MethodId} {below : List Frame} {meth : Method} {c : Code} {D : va_G} {cy : ClassId × ClassId × ClassId × ClassId} {A : Nat → Prop} {b L : Nat} {xs : Nat → Int32} (hst : l.stackTraces = false) (hSX : SX A s s.heap) (hNc : va_Nc "java/lang/IllegalStateException" "java/lang/IllegalArgumentException" s) (B : LC p s m #[Value.ref b] meth c D cy A b L xs) (hr : meth.sig.returnType = ret) (hAs : ∀ q, A q → s.heap.size ≤ q) :
    ∀ (f i cells slots : Nat) (n : Int) (ad : Nat → Nat) (V : Vt) (S : Me) (H : Heap) (locs : List Loc) (ls : Array Slot), L ≤ i + 6 * f + 5 → i + 6 * f ≤ 4000 → n + 500 * (f : Int) ≤ 300000 → cells + f ≤ 601024 → slots + 60 * f ≤ 7293033 → V.2.2.1 72 = 1 → jJ 0 V S n → l0 ad b ls (lH (i : Int)) → Gy D cy A s.heap ad V S H locs → W p l e room_1 s m #[Value.ref b] below meth c H locs cells slots (lw_Z below #[Value.ref b] s) (F0 m 23 ls []) := by
  intro f
  induction f with
  | zero =>
    intro i cells slots n ad V S H locs ls h1 h2 h3 h4 h5 h72 hJ hl G
    obtain ⟨C, hX, hbl, hbA, hL, hml⟩ := id B
    refine gx_iload C hl.1 dL_law_23 rfl ?_
    refine lv_aload_n C.1 C.2.1 dL_law_25 rfl hl.2 ?_
    refine va_slen C.1 C.2.1 hX hbl hbA G.2.2 dL_law_26 ?_
    rw [oN_I]
    refine gx_bipush C dL_law_27 (by decide) ?_
    refine gx_isub C dL_law_29 ?_
    refine gx_icmp_gt (tgt := 1173) C (by unfold rng; omega) (by unfold rng; omega) dL_law_30 (by decide) (fun _ => ?_) (fun h => absurd h (by omega))
    refine lv_iconst (v := 1) C.1 C.2.1 dL_law_1173 (by decide) ?_
    refine va_forget (fun q hq => hAs _ (G.2.2.2.2 q hq)) ?_
    exact W.widen (k := 601024) (n := 7293033) (by omega) (by omega) (lw_ret C.1 C.2.1 hr C.2.2.2.2.2.2 dL_law_1174)
  | succ f ih =>
    intro i cells slots n ad V S H locs ls h1 h2 h3 h4 h5 h72 hJ hl G
    obtain ⟨C, hX, hbl, hbA, hL, hml⟩ := id B
    refine gx_iload C hl.1 dL_law_23 rfl ?_
    refine lv_aload_n C.1 C.2.1 dL_law_25 rfl hl.2 ?_
    refine va_slen C.1 C.2.1 hX hbl hbA G.2.2 dL_law_26 ?_
    rw [oN_I]
    refine gx_bipush C dL_law_27 (by decide) ?_
    refine gx_isub C dL_law_29 ?_
    refine gx_icmp_gt (tgt := 1173) C (by unfold rng; omega) (by unfold rng; omega) dL_law_30 (by decide) (fun _ => ?_) (fun hgt => ?_)
    · refine lv_iconst (v := 1) C.1 C.2.1 dL_law_1173 (by decide) ?_
      refine va_forget (fun q hq => hAs _ (G.2.2.2.2 q hq)) ?_
      exact W.widen (k := 601024) (n := 7293033) (by omega) (by omega) (lw_ret C.1 C.2.1 hr C.2.2.2.2.2.2 dL_law_1174)
    have hi : i + 6 ≤ L := by omega
    have nxt : ∀ (ad' : Nat → Nat) (V' : Vt) (S' : Me) (H1 : Heap) (locs1 : List Loc) (ls' : Array Slot), exV V V' → jJ 0 V' S' (n + 500) → l0 ad' b ls' (lH (i : Int)) → Gy D cy A s.heap ad' V' S' H1 locs1 → W p l e room_1 s m #[Value.ref b] below meth c H1 locs1 (cells + 1) (slots + 60) (lw_Z below #[Value.ref b] s) (F0 m 1167 ls' []) := by
      intro ad' V' S' H1 locs1 ls' hex hJ' hl' G'
      refine lr_iinc C hl' dL_law_1167 rfl (by decide) rfl (fun ls2 hl2 => ?_)
      refine gx_goto (tgt := 23) C dL_law_1170 (by decide) ?_
      exact ih (i + 6) (cells + 1) (slots + 60) (n + 500) ad' V' S' H1 locs1 ls2 (by omega) (by omega) (by push_cast at h3; omega) (by omega) (by omega) ((hex.2 72 (by have := (jJ_V hJ).2.2.1; omega)).2.1.trans h72) hJ' hl2 G'
    have hn : n + 500 ≤ 300000 := by push_cast at h3; omega
    have hc : cells + 1 ≤ 601024 := by omega
    have hs : slots + 60 ≤ 7293033 := by omega
    refine lv_aload_n C.1 C.2.1 dL_law_33 rfl hl.2 ?_
    refine gx_iload C hl.1 dL_law_34 rfl ?_
    have hni : (Int32.ofInt (i : Int)).toNatClampNeg = i := by
      unfold Int32.toNatClampNeg
      rw [Int32.toInt_ofInt_of_le (by omega) (by omega)]; omega
    refine va_sld C.1 C.2.1 hX hbl hbA G.2.2 (i := Int32.ofInt (i : Int)) ?_ dL_law_36 ?_
    · rintro (h | h)
      · have : (Int32.ofInt (i : Int)).toInt < 0 := by
          have := Int32.lt_iff_toInt_lt.mp h
          simpa using this
        rw [Int32.toInt_ofInt_of_le (by omega) (by omega)] at this
        omega
      · rw [hni] at h; omega
    rw [hni, vI_i]
    refine gx_bipush C dL_law_37 (by decide) ?_
    refine gx_iand C dL_law_39 ?_
    have rx : rng (bAnd (xs i).toInt 31) := rn_i _
    generalize bAnd (xs i).toInt 31 = x at rx ⊢
    by_cases c0 : x = 0
    · exact gx_tableIn (tgt := 172) C rx dL_law_40 0 c0 (by decide) (by decide) rfl (by decide) (lc_time B G hl hJ hi hn hc hs nxt)
    by_cases c1 : x = 1
    · exact gx_tableIn (tgt := 209) C rx dL_law_40 1 c1 (by decide) (by decide) rfl (by decide) (lc_refresh B G hl hJ hi hn hc hs nxt)
    by_cases c2 : x = 2
    · exact gx_tableIn (tgt := 246) C rx dL_law_40 2 c2 (by decide) (by decide) rfl (by decide) (lc_order B G hl hJ hi hn hc hs nxt)
    by_cases c3 : x = 3
    · exact gx_tableIn (tgt := 283) C rx dL_law_40 3 c3 (by decide) (by decide) rfl (by decide) (lc_ask B G hl hJ hi hn hc hs nxt)
    by_cases c4 : x = 4
    · exact gx_tableIn (tgt := 320) C rx dL_law_40 4 c4 (by decide) (by decide) rfl (by decide) (lc_write B G hl hJ hi hn hc hs nxt)
    by_cases c5 : x = 5
    · exact gx_tableIn (tgt := 369) C rx dL_law_40 5 c5 (by decide) (by decide) rfl (by decide) (lc_mask B G hl hJ hi hn hc hs nxt)
    by_cases c6 : x = 6
    · exact gx_tableIn (tgt := 430) C rx dL_law_40 6 c6 (by decide) (by decide) rfl (by decide) (lc_swap B G hl hJ hi hn hc hs nxt)
    by_cases c7 : x = 7
    · exact gx_tableIn (tgt := 479) C rx dL_law_40 7 c7 (by decide) (by decide) rfl (by decide) (lc_fence B G hl hJ hi hn hc hs nxt)
    by_cases c8 : x = 8
    · exact gx_tableIn (tgt := 504) C rx dL_law_40 8 c8 (by decide) (by decide) rfl (by decide) (lc_run B G hl hJ hi hn hc hs nxt)
    by_cases c9 : x = 9
    · exact gx_tableIn (tgt := 529) C rx dL_law_40 9 c9 (by decide) (by decide) rfl (by decide) (lc_drain B G hl hJ hi hn hc hs nxt)
    by_cases c10 : x = 10
    · exact gx_tableIn (tgt := 554) C rx dL_law_40 10 c10 (by decide) (by decide) rfl (by decide) (lc_next B G hl hJ hi hn hc hs nxt)
    by_cases c11 : x = 11
    · exact gx_tableIn (tgt := 567) C rx dL_law_40 11 c11 (by decide) (by decide) rfl (by decide) (lc_look B G hl hJ hi hn hc hs nxt)
    by_cases c12 : x = 12
    · exact gx_tableIn (tgt := 604) C rx dL_law_40 12 c12 (by decide) (by decide) rfl (by decide) (lc_at B G hl hJ hi hn hc hs nxt)
    by_cases c13 : x = 13
    · exact gx_tableIn (tgt := 629) C rx dL_law_40 13 c13 (by decide) (by decide) rfl (by decide) (lc_soonest B G hl hJ hi hn hc hs nxt)
    by_cases c14 : x = 14
    · exact gx_tableIn (tgt := 666) C rx dL_law_40 14 c14 (by decide) (by decide) rfl (by decide) (lc_row B G hl hJ hi hn hc hs nxt)
    by_cases c15 : x = 15
    · exact gx_tableIn (tgt := 691) C rx dL_law_40 15 c15 (by decide) (by decide) rfl (by decide) (lc_octet B G hl hJ hi hn hc hs nxt)
    by_cases c16 : x = 16
    · exact gx_tableIn (tgt := 716) C rx dL_law_40 16 c16 (by decide) (by decide) rfl (by decide) (lc_log B G hl hJ hi hn hc hs nxt)
    by_cases c17 : x = 17
    · exact gx_tableIn (tgt := 753) C rx dL_law_40 17 c17 (by decide) (by decide) rfl (by decide) (lc_forge B G hl hJ hi hn hc hs nxt)
    by_cases c18 : x = 18
    · exact gx_tableIn (tgt := 790) C rx dL_law_40 18 c18 (by decide) (by decide) rfl (by decide) (lc_check B G hl hJ hi hn hc hs nxt)
    by_cases c19 : x = 19
    · exact gx_tableIn (tgt := 803) C rx dL_law_40 19 c19 (by decide) (by decide) rfl (by decide) (lc_broken B G hl hJ hi hn hc hs nxt)
    by_cases c20 : x = 20
    · exact gx_tableIn (tgt := 816) C rx dL_law_40 20 c20 (by decide) (by decide) rfl (by decide) (lc_worst B G hl hJ hi hn hc hs nxt)
    by_cases c21 : x = 21
    · exact gx_tableIn (tgt := 841) C rx dL_law_40 21 c21 (by decide) (by decide) rfl (by decide) (lc_beside B G hl hJ hi hn hc hs nxt)
    by_cases c22 : x = 22
    · exact gx_tableIn (tgt := 854) C rx dL_law_40 22 c22 (by decide) (by decide) rfl (by decide) (lc_count B G hl hJ hi hn hc hs nxt)
    by_cases c23 : x = 23
    · exact gx_tableIn (tgt := 879) C rx dL_law_40 23 c23 (by decide) (by decide) rfl (by decide) (lc_keep B G hl hJ hi hn hc hs nxt)
    by_cases c24 : x = 24
    · exact gx_tableIn (tgt := 928) C rx dL_law_40 24 c24 (by decide) (by decide) rfl (by decide) (lc_make B G hl hJ hi hn hc hs nxt)
    by_cases c25 : x = 25
    · exact gx_tableIn (tgt := 977) C rx dL_law_40 25 c25 (by decide) (by decide) rfl (by decide) (lc_element hst hSX hNc h72 B G hl hJ hi hn hc hs nxt)
    by_cases c26 : x = 26
    · exact gx_tableIn (tgt := 1044) C rx dL_law_40 26 c26 (by decide) (by decide) rfl (by decide) (lc_copy B G hl hJ hi hn hc hs nxt)
    by_cases c27 : x = 27
    · exact gx_tableIn (tgt := 1117) C rx dL_law_40 27 c27 (by decide) (by decide) rfl (by decide) (lc_weight B G hl hJ hi hn hc hs nxt)
    by_cases c28 : x = 28
    · exact gx_tableIn (tgt := 1142) C rx dL_law_40 28 c28 (by decide) (by decide) rfl (by decide) (lc_toss hst hSX B G hl hJ hi hn hc hs nxt)
    refine gx_tableOut (tgt := 1167) C rx dL_law_40 (by omega) (by decide) ?_
    exact W.widen (k := cells + 1) (n := slots + 60) (by omega) (by omega) (nxt _ _ _ _ _ _ (exV.rf _) (jJ_n hJ (by omega) hn) hl G)

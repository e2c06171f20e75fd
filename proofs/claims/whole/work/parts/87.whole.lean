/-! ===== THE LAW, from its entry ===== -/
section LZ
variable {p : Program} {l : Launch} {e : Env} {R : Room} {s : State} {m : MethodId} {args : Array Value} {below : List Frame} {meth : Method} {c : Code} {H : Heap} {locs : List Loc} {cells slots : Nat} {Q : State → Prop} {cc : ByteArray} {pc : Nat} {ls : Array Slot} {rest : List Value} {D : va_G} {cy : ClassId × ClassId × ClassId × ClassId} {A : Nat → Prop} {ad : Nat → Nat} {V : Vt} {S : Me} {own : String} {PL : List (Option (Int ⊕ Option Nat))} {b : Nat}
theorem gx_callICT (C : Cx p s m args meth c cc own D cy A) (hFT : FT A s s.heap) (G : Gy D cy A s.heap ad V S H locs) (hlo : lo ad ls PL) (okP : ∀ v, some v ∈ PL → okv V v) (hml : c.maxLocals = PL.length) {y : MethodName} {bc : ByteArray} {n fr lc mc ms index : Nat} {Qi : Vt → Me → Prop} {r : Option Nat} {z : Nat}
    (hK : KCT l D cy y bc n fr lc mc ms ad V S [.inr (some z)] Qi) (hz : r = some z)
    (hcode : Cond.code y bc n none ∈ UW) (hlink : Cond.methodLink own index y ∈ UW) (hinst : Cond.instanceMethod y ∈ UW) (hini : Cond.initialized y.cls ∈ UW) (hnm : y.name = "<init>")
    (hd : y.cls ≠ "java/lang/invoke/MethodHandle" ∧ y.cls ≠ "java/lang/invoke/VarHandle" ∧ (parseMethodDescriptor y.desc).map (fun d => d.parameters.length) = some 0) (hR : fr + 1 ≤ R.frames ∧ 8 + (n + 11) + lc ≤ R.locals) (hRc : cells + mc ≤ R.cells ∧ slots + ms ≤ R.slots)
    (rs : List (Int ⊕ Option Nat)) (okS : ∀ v ∈ rs, okv V v) {st0 : List Value} (hst : st0 = vR ad r :: rs.map (vS ad)) (hrl : rs.length ≤ 8) (hdg : decode cc pc = .ok (.invokespecial index, 3))
    (kk : ∀ (ad' : Nat → Nat) (V' : Vt) (S' : Me) (H1 : Heap) (locs1 : List Loc), Qi V' S' → (∀ k, k < V.1 → ad' k = ad k) → exT V V' → lo ad' ls PL → Gy D cy A s.heap ad' V' S' H1 locs1 → W p l e R s m args below meth c H1 locs1 (cells + mc) (slots + ms) Q (F0 m (pc + 3) ls (rs.map (vS ad')))) : W p l e R s m args below meth c H locs cells slots Q (F0 m pc ls st0) := by
  subst hz
  have hts := C.2.2.2.1
  refine gx_backC C G hlo okP rs okS (va_runI (b := ad z) (As := []) (Ts := UW) (own := own) (nL := PL.length) ⟨C.1, C.2.1, hml, C.2.2.1, hts⟩ (hK H.size) ⟨callB_of (ws' := UW) 0 hts (uw_in hcode) rfl rfl rfl (hts _ hini) (hts _ hlink) hd hR, hnm, hts _ hinst⟩ ⟨fun a U g mk q => ⟨q.1, q.2.1, q.2.2.1, Kx.same (u := U) (U := U.calling g mk a) rfl q.2.2.2.1, FT.at (u := U) (U := U.calling g mk a) q.2.2.2.2 (Vm.Alike.refl _) (fun _ _ _ => rfl) (fun _ h => h)⟩, fun U hU hW => ⟨rfl, by rw [hU], by rw [hU]; exact G.1, Kx.warm hW C.2.2.2.2.1, by rw [hU]; exact FT.at hFT hW.alike (fun q h1 h2 => G.2.2.2.1 q h1 h2) (gy_free C G)⟩⟩ rfl rfl hlo.1 hst (lv_room (hw_le ad rs rfl hrl)) hdg hRc) kk
end LZ
def lE (k : Nat) : List (Option (Int ⊕ Option Nat)) := [none, if 1 ≤ k then some (.inr (some 0)) else none, if 2 ≤ k then some (.inr (some 42)) else none, if 3 ≤ k then some (.inr (some 72)) else none, none, none, none, none]
set_option maxHeartbeats 4000000 in
set_option maxRecDepth 100000 in
/-- from the entry, for every script of at most 3072 ints, the law comes to its end with true -/
theorem whole_start {p : Program} {e : Env} {s : State} {m : MethodId} {below : List Frame} {meth : Method} {c : Code} (l : Launch) (hflags : l.flags = flags0) {b L : Nat} {xs : Nat → Int32} (hL : L ≤ 3072) (C0 : lw_At p s m meth c b L xs) : W p l e room_1 s m #[Value.ref b] below meth c s.heap [] 0 0 (lw_Z below #[Value.ref b] s) (entryFrame m ([Value.ref b] : List Value).toArray 8) := by
  obtain ⟨hx, hb, hr, hml, hown, hts, hX, hbl, hlocks, hgv⟩ := id C0
  have hst : l.stackTraces = false := by unfold Launch.stackTraces; rw [hflags]; decide
  obtain ⟨A, hAe⟩ : ∃ A : Nat → Prop, A = fun q : Nat => s.heap.size ≤ q := ⟨_, rfl⟩
  have hA : ∀ q : Nat, s.heap.size ≤ q → A q := fun q h => by rw [hAe]; exact h
  have hAs : ∀ q : Nat, A q → s.heap.size ≤ q := fun q h => by rw [hAe] at h; exact h
  have hAn : ∀ a : Nat, a < s.heap.size → ¬ A a := fun a h q => absurd (hAs a q) (by omega)
  have hbA : ¬ A b := hAn b hbl
  obtain ⟨D, cy, hK⟩ := kx_at hts
  have hSX : SX A s s.heap := sx_0 hts hgv hAn
  have hFT : FT A s s.heap := ft_0 hts hgv hAn
  have hNc := nc_0 hgv
  have C : Cx p s m #[Value.ref b] meth c cL_law RL D cy A := ⟨hx, hb, hown, fun w hw => hts w (List.mem_filter.mp hw).1, hK, hA, hlocks⟩
  have B : LC p s m #[Value.ref b] meth c D cy A b L xs := ⟨C, hX, hbl, hbA, hL, hml⟩
  have G : Gy D cy A s.heap (fun _ => 0) V0e S0e s.heap [] := ⟨⟨fun k q h => (by simp [wo, V0e] at h), fun i j h => absurd h (Nat.not_lt_zero _), fun a k => (by decide : rng 0), fun a k z h => (by cases h), fun a k z h => (by cases h), fun a => Nat.zero_le _⟩, fun k h => absurd h (Nat.not_lt_zero _), va_S.rf⟩
  have hl9 := lv_entry ([.ref b]) (n := 8) (Nat.le_of_ble_eq_true rfl)
  rw [lg_entry_eq]
  generalize (lg_sl ([.ref b]) ++ List.replicate (8 - (lg_sl ([.ref b])).length) Slot.unset).toArray = ls at hl9 ⊢
  have hl : l0 (fun _ => 0) b ls (lE 0) := by
    refine ⟨⟨hl9.1, hl9.2.1, fun j v h => ?_⟩, hl9.2.2 (0, .ref b) List.mem_cons_self⟩
    match j, h with
    | 0, h => exact absurd (Option.some.inj (show some none = some (some v) from h)) (by simp)
    | 1, h => exact absurd (Option.some.inj (show some none = some (some v) from h)) (by simp)
    | 2, h => exact absurd (Option.some.inj (show some none = some (some v) from h)) (by simp)
    | 3, h => exact absurd (Option.some.inj (show some none = some (some v) from h)) (by simp)
    | 4, h => exact absurd (Option.some.inj (show some none = some (some v) from h)) (by simp)
    | 5, h => exact absurd (Option.some.inj (show some none = some (some v) from h)) (by simp)
    | 6, h => exact absurd (Option.some.inj (show some none = some (some v) from h)) (by simp)
    | 7, h => exact absurd (Option.some.inj (show some none = some (some v) from h)) (by simp)
    | j + 8, h => simp [lE] at h
  have o4 : ∀ {V : Vt}, ∀ v, some v ∈ ([none, none, none, none] : List (Option (Int ⊕ Option Nat))) → okv V v := okP_N (okP_N (okP_N (okP_N okP_0)))
  have okE0 : ∀ {V : Vt}, ∀ v, some v ∈ lE 0 → okv V v := okP_N (okP_N (okP_N (okP_N o4)))
  have okE1 : ∀ {V : Vt}, 0 < V.1 → ∀ v, some v ∈ lE 1 → okv V v := fun h => okP_N (okP_S (okv_R (vsome h)) (okP_N (okP_N o4)))
  have okE2 : ∀ {V : Vt}, 42 < V.1 → ∀ v, some v ∈ lE 2 → okv V v := fun h => okP_N (okP_S (okv_R (vsome (by omega))) (okP_S (okv_R (vsome h)) (okP_N o4)))
  refine gx_new C G hl.1 okE0 (t := 10) rfl iu10 tyX11 tyX11_ok (df_10 _) (by decide) uw_23 uw_24 uw_1 (Nat.le_of_ble_eq_true rfl) (Nat.le_of_ble_eq_true rfl) [] rfl okS_0 dL_law_0 (fun ad V S H eV eS hag hex hl1 G => ?_)
  replace hl : l0 ad b ls (lE 0) := ⟨hl1, hl.2⟩
  subst eV eS
  refine gx_dupR (x := some 0) C dL_law_3 ?_
  refine gx_callICT C hFT G hl.1 okE0 hml (c_X11_init l D cy ad (show 0 < 1 by decide) rfl (p_init11 (Q := inA) (fun _ _ h => h))) rfl uw_27 uw_25 uw_26 uw_1 rfl hd_X11_init ⟨Nat.le_of_ble_eq_true rfl, Nat.le_of_ble_eq_true rfl⟩ ⟨Nat.le_of_ble_eq_true rfl, Nat.le_of_ble_eq_true rfl⟩ [.inr (some 0)] (okS_S (okv_R (vsome (show 0 < 1 by decide))) okS_0) rfl (Nat.le_of_ble_eq_true rfl) dL_law_4 (fun ad V S H locs hA1 hag1 hex1 hl1 G => ?_)
  replace hl : l0 ad b ls (lE 0) := ⟨hl1, hl.2⟩
  have e42 : V.1 = 42 := hA1.1.1
  refine lr_astore (PL' := lE 1) C hl dL_law_7 (show 1 < 8 by decide) (show 0 < 1 by decide) rfl (fun ls hl => ?_)
  refine gx_new C G hl.1 (okE1 (by omega)) (t := 11) rfl iu11 tyX12 tyX12_ok (df_11 _) (by decide) uw_949 uw_950 uw_9 (Nat.le_of_ble_eq_true rfl) (Nat.le_of_ble_eq_true rfl) [] rfl okS_0 dL_law_8 (fun ad V2 S2 H eV eS hag2 hex2 hl1 G => ?_)
  rw [e42]
  replace hl : l0 ad b ls (lE 1) := ⟨hl1, hl.2⟩
  have n2 : V2.1 = 43 := by rw [eV]; show V.1 + 1 = 43; omega
  have t2 : V2.2.1 42 = 11 := by rw [eV]; show (if 42 = V.1 then 11 else V.2.1 42) = 11; rw [if_pos e42.symm]
  have hI : PT_X12_init V2 42 S2 (inB V S) := by rw [eV, eS]; exact p_init12 e42 (fun _ _ h => h)
  refine gx_dupR C dL_law_11 ?_
  refine gx_callIC C G hl.1 (okE1 (by omega)) hml (c_X12_init l D cy ad (show 42 < V2.1 by omega) t2 hI) rfl uw_953 uw_951 uw_952 uw_9 rfl (by decide +kernel) ⟨Nat.le_of_ble_eq_true rfl, Nat.le_of_ble_eq_true rfl⟩ ⟨Nat.le_of_ble_eq_true rfl, Nat.le_of_ble_eq_true rfl⟩ [.inr (some 42)] (okS_S (okv_R (vsome (by omega))) okS_0) rfl (Nat.le_of_ble_eq_true rfl) dL_law_12 (fun ad V3 S3 H locs hB1 hag3 hex3 hl1 G => ?_)
  replace hl : l0 ad b ls (lE 1) := ⟨hl1, hl.2⟩
  have e72 : V3.1 = 72 := hB1.1.1
  refine lr_astore (PL' := lE 2) C hl dL_law_15 (show 2 < 8 by decide) (show 0 < 2 by decide) rfl (fun ls hl => ?_)
  refine gx_iconst C dL_law_16 ?_
  refine gx_newl C G hl.1 (okE2 (by omega)) (n := 1) (by decide) 1 (by decide) (by decide) (by decide) (Nat.le_of_ble_eq_true rfl) (Nat.le_of_ble_eq_true rfl) [] rfl okS_0 dL_law_17 (fun ad V4 S4 H eV4 eS4 hag4 hex4 hl1 G => ?_)
  rw [e72]
  replace hl : l0 ad b ls (lE 2) := ⟨hl1, hl.2⟩
  refine lr_astore (PL' := lE 3) C hl dL_law_19 (show 3 < 8 by decide) (show 0 < 3 by decide) rfl (fun ls hl => ?_)
  refine gx_iconst C dL_law_20 ?_
  refine lr_istore (PL' := lH 0) C hl dL_law_21 (show 4 < 8 by decide) (by decide) rfl (fun ls hl => ?_)
  have hJ : jJ 0 V4 S4 1 := by rw [eV4, eS4]; exact jJ_init hA1 hB1
  have h72 : V4.2.2.1 72 = 1 := by rw [eV4]; show (if 72 = V3.1 then _ else V3.2.2.1 72) = 1; rw [if_pos e72.symm]; rfl
  exact law_loop hst hSX hNc B hr hAs 512 0 _ _ 1 ad V4 S4 H locs ls (by omega) (by omega) (by decide) (Nat.le_of_ble_eq_true rfl) (Nat.le_of_ble_eq_true rfl) h72 hJ hl G
set_option maxHeartbeats 4000000 in
theorem lw_walk (l : Launch) (hflags : l.flags = flags0) (b : Addr) (xs : List Int32) : MetFree l x (headSpec (Jvm.Cond.code x code maxLocals ret :: tables_1) room_1) (lw_P b xs) (fun _ _ _ _ _ => True) lw_Q := by
  refine MetFree.of_bodyS (code := code) (maxLocals := maxLocals) (ret := ret) (by decide) ?_ ?_
  · intro args s m h hn
    obtain ⟨meth, c, h1, h2, h3, h4, h5, h6, -, -⟩ := Cond.code_spec hn (atoms_spec (ws := Jvm.Cond.code x code maxLocals ret :: tables_1) h _ List.mem_cons_self)
    exact ⟨meth, c, h1, h2, h3, h4, h5, h6⟩
  · intro p e s m args below meth c s₁ B hml0 hP _
    obtain ⟨rfl, hx, hbd, hgv⟩ := hP
    obtain ⟨scr, harrAt, hlist, hof, hsmall⟩ := hx
    obtain ⟨hcb, hkn, -, -⟩ := State.arrayAt?_spec harrAt
    have hown : s.vm.findClass R_law = some m.cls := findClass_of_methodNamed B.named
    have hts0 : ∀ c ∈ (Jvm.Cond.code x code maxLocals ret :: tables_1), c.before #[Value.ref b] s = true := atoms_spec (ws := Jvm.Cond.code x code maxLocals ret :: tables_1) B.pre
    have hts : ∀ w ∈ lw_tbl, w.before #[Value.ref b] s = true := k2_hts_sels lw_privs (fun w hw => hts0 w (List.mem_cons_of_mem _ hw)) lw_privs_ok
    have hml : c.maxLocals = 8 := B.maxLocals_eq (hts0 _ List.mem_cons_self)
    have X₀ : Stand p l e room_1 s m #[Value.ref b] below meth c s₁ [] 0 0 := Stand.of_body B
    have hh0 : s₁.heap = s.heap := by rw [B.state]; rfl
    have hsz : scr.slots.size = xs.length := by rw [← Array.length_toList, hlist, List.length_map]
    have hval : ∀ j : Nat, j < xs.length → scr.slots[j]? = some (.int (xs.getD j 0)) := fun j hj => by
      rw [← Array.getElem?_toList, hlist]
      simp [hj]
    have hbl : b < s.heap.size := (Array.getElem?_eq_some_iff.mp hcb).1
    have hX : va_X b xs.length (fun j => xs.getD j 0) s s.heap := ⟨scr, hcb, hof, hkn, hsz, hval⟩
    have K : W p l e room_1 s m #[Value.ref b] below meth c s₁.heap [] 0 0 (lw_Z below #[Value.ref b] s) (entryFrame m ([Value.ref b] : List Value).toArray 8) := by
      rw [hh0]
      exact whole_start l hflags hbd ⟨B.exec, B.bytes, B.returns, hml, hown, hts, hX, hbl, B.notSynchronized, hgv⟩
    obtain ⟨t, a1, o, b1, b2, b3⟩ := K s₁ rfl X₀
    exact ⟨t, o, a1, b1, b2, b3⟩
theorem lw_pre_spec {args : Array Value} {s : State} (h : (Jvm.Cond.and given_1 narrow_1).before args s = true) (hr : rest_1_c.before args s = true) : ∃ (b : Addr) (xs : List Int32), lw_P b xs args s := by
  have hs := flat_of_before _ h
  have hq := flat_of_before _ hr
  have hc : (Cond.count 1).before args s = true := hs _ (by decide +kernel)
  have harr : (Cond.arrayOf (.arg 0) .int).before args s = true := hs _ (by decide +kernel)
  have hle : (Cond.le (.length (.arg 0)) (.int 3072)).before args s = true := hs _ (by decide +kernel)
  have hlen : (Cond.isInt (.length (.arg 0))).before args s = true := hq _ (by decide +kernel)
  have hall : (Cond.all (.arg 0) (.isInt (.elem (.arg 0) (.index 0)))).before args s = true := hq _ (by decide +kernel)
  obtain ⟨b, xs, hb, hx⟩ := State.ints_of_pre rfl harr hlen hall
  have hsm : xs.length < 2 ^ 31 := hx.choose_spec.2.2.2
  have hev : (Term.length (.arg 0)).eval args s none [] s = some (.int xs.length.toInt32) := hx.length_eval hb
  have hv := Cond.le_ints hev (show (Term.int 3072).eval args s none [] s = some (.int 3072) from rfl)
  have hd : xs.length.toInt32 ≤ 3072 := by
    simpa [Cond.before, Cond.holds, hv] using hle
  have hN : xs.length ≤ 3072 := (Int32.ofNat_le_ofNat hsm (by decide)).mp (show Int32.ofNat xs.length ≤ Int32.ofNat 3072 from hd)
  exact ⟨b, xs, Cond.one_arg hc (show args[0]? = some (.ref b) from hb), hx, hN, h⟩
theorem lw_comes (l : Launch) (hflags : l.flags = flags0) : Comes l x (Jvm.Cond.code x code maxLocals ret :: tables_1) room_1 (fun tb e args s => Calls_1 tb e args s ∧ rest_1 tb e args s ∧ Pre_1 tb e args s)
    (fun _ _ args s o t => lw_Q args s o t) := by
  intro p e ha hc hk s m args below hf hfit hheap happ hpre
  obtain ⟨b, xs, hP⟩ := lw_pre_spec hpre.2.2 hpre.2.1
  obtain ⟨k, o, h1, h2, h3, hQ⟩ := lw_walk l hflags b xs p e ha hc hk s m args below hf ((Spec.applies_iff_loose hf).mp happ).1 hP trivial
  exact ⟨k, o, h1, h2, h3, hQ⟩
theorem lw_frame {s t : State} {o : Outcome} {args : Array Value} (h : Framed s o t [] 601024 7293033) :
    Framed s o t (fieldLocs frame_1_writes args s ++ arrayLocs frame_1_arrays args s ++ staticLocs frame_1_statics s) 601024 7293033 := h
theorem lw_limb (L : Cond) (hL : ∀ (args : Array Value) (s t : State), L.after args s (.returned (some (.int 1))) t = true) :
    ArmFor flags0 classFile x code maxLocals ret World_1 tables_1 room_1 Calls_1 rest_1 Pre_1
      (fun tb e a s o t => postC L tb e a s o t ∧ Framed s o t (fieldLocs frame_1_writes a s ++ arrayLocs frame_1_arrays a s ++ staticLocs frame_1_statics s) 601024 7293033) := by
  intro l hflags _ _ p e ha hc hk s m args below hf hfit hheap happ hpre
  obtain ⟨k, o, h1, h2, h3, rfl, hF⟩ := lw_comes l hflags p e ha hc hk s m args below hf hfit hheap happ hpre
  exact ⟨k, _, h1, h2, h3, hL args s _, lw_frame hF⟩
theorem i_vc : Claimed_1_1 ∧ Claimed_1_2 := ⟨lw_limb limb_1_1 (fun args s t => by simp [limb_1_1, Cond.after, Cond.holds, Cond.value]), lw_limb limb_1_2 (fun args s t => Cond.after_iff.mpr (by
  first | (rw [show limb_1_2 = Cond.eq .result (.int 1) from rfl, Cond.eq_ints (x := 1) (y := 1) rfl rfl]; simp; done) | (simp [limb_1_2, Cond.value, Term.eval]; done)))⟩

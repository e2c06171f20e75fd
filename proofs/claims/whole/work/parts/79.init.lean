/-! ===== PURE PART: the constructors (written by wip/gen/init.py) ===== -/
def aT (T : Nat → Nat) (n t : Nat) : Nat → Nat := fun a => if a = n then t else T a
def aN (F : Nat → Nat → Option Nat) (n : Nat) : Nat → Nat → Option Nat := fun a j => if a = n then none else F a j
def aF (F : Nat → Nat → Option Nat) (o j w : Nat) : Nat → Nat → Option Nat := fun a k => if a = o ∧ k = j then some w else F a k
theorem nV_e {T L : Nat → Nat} {F : Nat → Nat → Option Nat} (n m : Nat) (h : n + 1 = m) {t l : Nat} : nV (n, T, L, F) t l = (m, aT T n t, aT L n l, aN F n) := by rw [← h]; rfl
theorem fV_e {T L : Nat → Nat} {F : Nat → Nat → Option Nat} {n o j w : Nat} : fV (n, T, L, F) o j w = (n, T, L, aF F o j w) := rfl
def nZ (n : Nat) (S : Me) : Me := (fun a k => if a = n then 0 else S.1 a k, fun a k => if a = n then none else S.2 a k)
theorem nS_e {U : Vt} {S : Me} {n : Nat} (h : U.1 = n) : nS U S = nZ n S := by unfold nS nZ; rw [h]
theorem nZ_1 {n b : Nat} {S : Me} (h : b ≠ n) : (nZ n S).1 b = S.1 b := funext fun k => if_neg h
theorem nZ_2 {n b : Nat} {S : Me} (h : b ≠ n) : (nZ n S).2 b = S.2 b := funext fun k => if_neg h
theorem nZ_e {n j : Nat} {S : Me} : (nZ n S).1 n j = 0 := if_pos rfl
theorem nZ_e2 {n j : Nat} {S : Me} : (nZ n S).2 n j = none := if_pos rfl
theorem sP_na {S : Me} {a k b : Nat} {r : Option Nat} (h : b ≠ a) : (sP S a k r).2 b = S.2 b := funext fun j => by rw [sP_2, if_neg (fun w => h w.1)]
theorem sP_ne {S : Me} {a k b j : Nat} {r : Option Nat} (h : j ≠ k) : (sP S a k r).2 b j = S.2 b j := by rw [sP_2, if_neg (fun w => h w.2)]
theorem sP_eq {S : Me} {a k : Nat} {r : Option Nat} : (sP S a k r).2 a k = r := by rw [sP_2, if_pos ⟨rfl, rfl⟩]
theorem tc_na {S : Me} {z d n b : Nat} (h : b ≠ z) : (tcS S z d n).1 b = S.1 b := by
  funext j
  unfold tcS
  exact if_neg (fun w => h w.1)
theorem tc_2 {S : Me} {z d n : Nat} : (tcS S z d n).2 = S.2 := rfl
theorem tc_e {S : Me} {z n j : Nat} (h : j < n) : (tcS S z 0 n).1 z j = ft j := by
  unfold tcS
  exact (if_pos ⟨rfl, Nat.zero_le _, by omega⟩).trans rfl
/-- the empty memory -/
def V0e : Vt := (0, fun _ => 0, fun _ => 0, fun _ _ => none)
def S0e : Me := (fun _ _ => 0, fun _ _ => none)
/-- what RowBank() leaves -/
def inA (V : Vt) (S : Me) : Prop := (V.1 = 42 ∧ fX11 V 0 ∧ ∀ d, d < 8 → V.2.1 (34 + d) = 7) ∧ (S.1 0 6 = 1 ∧ S.1 0 7 = 0 ∧ S.1 0 8 = 4 ∧ S.1 0 9 = 0 ∧ S.1 0 10 = 0 ∧ S.1 0 11 = 4 ∧ S.1 0 12 = 0 ∧ S.1 0 13 = 0 ∧ S.1 10 7 = (0) ∧ S.1 10 8 = (-2) ∧ S.1 28 6 = 0 ∧ S.1 28 7 = 0 ∧ S.1 28 8 = 0 ∧ S.1 28 9 = 0 ∧ S.1 28 10 = 0 ∧ S.1 27 0 = (-2) ∧ S.1 27 1 = (-2) ∧ S.1 27 2 = (-2) ∧ S.1 27 3 = (-2) ∧ S.1 32 0 = (-2) ∧ S.1 32 1 = (-2) ∧ S.1 32 2 = (-2) ∧ S.1 32 3 = (-2)) ∧ (S.2 28 4 = none ∧ S.2 28 5 = none ∧ S.2 33 0 = some 34 ∧ S.2 33 1 = some 35 ∧ S.2 33 2 = some 36 ∧ S.2 33 3 = some 37 ∧ S.2 33 4 = some 38 ∧ S.2 33 5 = some 39 ∧ S.2 33 6 = some 40 ∧ S.2 33 7 = some 41 ∧ S.2 34 0 = none ∧ S.2 34 1 = none ∧ S.2 35 0 = none ∧ S.2 35 1 = none ∧ S.2 36 0 = none ∧ S.2 36 1 = none ∧ S.2 37 0 = none ∧ S.2 37 1 = none ∧ S.2 38 0 = none ∧ S.2 38 1 = none ∧ S.2 39 0 = none ∧ S.2 39 1 = none ∧ S.2 40 0 = none ∧ S.2 40 1 = none ∧ S.2 41 0 = none ∧ S.2 41 1 = none) ∧ ((∀ a, S.1 26 a = 0) ∧ (∀ a, S.1 31 a = 0) ∧ (∀ r, r < 13 → S.1 1 r = ft r)) ∧ (S.1 2 7 = 0 ∧ (∀ r is b : Int, 0 ≤ r → r < 13 → r ≠ 10 → 0 ≤ is → is < 5 → (is < 4 → 0 ≤ b ∧ b < 4) → cF S 2 r is b = -1000) ∧ ∀ j : Int, f4 S 2 j = -1000)
set_option maxRecDepth 100000 in
set_option maxHeartbeats 4000000 in
theorem p_init11 {Q : Vt → Me → Prop} (k : ∀ V S, inA V S → Q V S) : PT_X11_init (nV V0e 10 0) 0 (nS V0e S0e) Q := by
  obtain ⟨V0, hv0⟩ : ∃ V0, V0 = nV V0e 10 0 := ⟨_, rfl⟩
  obtain ⟨S0, hs0⟩ : ∃ S0, S0 = nS V0e S0e := ⟨_, rfl⟩
  rw [← hv0, ← hs0]
  unfold V0e at hv0
  rw [nV_e 0 1 rfl] at hv0
  rw [nS_e (n := 0) rfl] at hs0
  unfold PT_X11_init
  intro U1 a4a V2 a4b S3 a4c
  have a4u : U1.1 = 1 := by rw [a4a, hv0]
  rw [a4a, hv0, nV_e 1 2 rfl] at a4b
  rw [nS_e a4u] at a4c
  intro U5 a7a V6 a7b
  rw [a7a, a4b] at a7b
  try rw [a4u] at a7b
  rw [fV_e] at a7b
  intro U8 a11a V9 a11b S10 a11c
  have a11u : U8.1 = 2 := by rw [a11a, a7b]
  rw [a11a, a7b, nV_e 2 3 rfl] at a11b
  rw [nS_e a11u] at a11c
  try unfold PT_X5_init
  try rw [a11u]
  intro U12 a15a V13 a15b S14 a15c
  have a15u : U12.1 = 3 := by rw [a15a, a11b]
  rw [a15a, a11b, nV_e 3 4 rfl] at a15b
  rw [nS_e a15u] at a15c
  intro U16 a18a V17 a18b
  rw [a18a, a15b] at a18b
  try rw [a15u] at a18b
  rw [fV_e] at a18b
  intro U19 a22a V20 a22b S21 a22c
  have a22u : U19.1 = 4 := by rw [a22a, a18b]
  rw [a22a, a18b, nV_e 4 5 rfl] at a22b
  rw [nS_e a22u] at a22c
  intro U23 a25a V24 a25b
  rw [a25a, a22b] at a25b
  try rw [a22u] at a25b
  rw [fV_e] at a25b
  intro U26 a29a V27 a29b S28 a29c
  have a29u : U26.1 = 5 := by rw [a29a, a25b]
  rw [a29a, a25b, nV_e 5 6 rfl] at a29b
  rw [nS_e a29u] at a29c
  intro U30 a32a V31 a32b
  rw [a32a, a29b] at a32b
  try rw [a29u] at a32b
  rw [fV_e] at a32b
  intro U33 a36a V34 a36b S35 a36c
  have a36u : U33.1 = 6 := by rw [a36a, a32b]
  rw [a36a, a32b, nV_e 6 7 rfl] at a36b
  rw [nS_e a36u] at a36c
  intro U37 a39a V38 a39b
  rw [a39a, a36b] at a39b
  try rw [a36u] at a39b
  rw [fV_e] at a39b
  intro U40 a43a V41 a43b S42 a43c
  have a43u : U40.1 = 7 := by rw [a43a, a39b]
  rw [a43a, a39b, nV_e 7 8 rfl] at a43b
  rw [nS_e a43u] at a43c
  intro U44 a46a V45 a46b
  rw [a46a, a43b] at a46b
  try rw [a43u] at a46b
  rw [fV_e] at a46b
  intro U47 a50a V48 a50b S49 a50c
  have a50u : U47.1 = 8 := by rw [a50a, a46b]
  rw [a50a, a46b, nV_e 8 9 rfl] at a50b
  rw [nS_e a50u] at a50c
  intro U51 a53a V52 a53b
  rw [a53a, a50b] at a53b
  try rw [a50u] at a53b
  rw [fV_e] at a53b
  intro U54 a57a V55 a57b S56 a57c
  have a57u : U54.1 = 9 := by rw [a57a, a53b]
  rw [a57a, a53b, nV_e 9 10 rfl] at a57b
  rw [nS_e a57u] at a57c
  intro U58 a60a V59 a60b
  rw [a60a, a57b] at a60b
  try rw [a57u] at a60b
  rw [fV_e] at a60b
  have f62x : fX5 V59 2 := by rw [a60b]; unfold fX5; decide +kernel
  refine ⟨f62x, p_forget f62x (fun S61 f62a f62b f62c f62d f62e => ?_)⟩
  intro U63 a65a V64 a65b
  rw [a65a, a60b] at a65b
  try rw [a11u] at a65b
  rw [fV_e] at a65b
  intro U66 a69a V67 a69b S68 a69c
  have a69u : U66.1 = 10 := by rw [a69a, a65b]
  rw [a69a, a65b, nV_e 10 11 rfl] at a69b
  rw [nS_e a69u] at a69c
  try unfold PT_X1_init
  try rw [a69u]
  intro U70 a73a V71 a73b S72 a73c
  have a73u : U70.1 = 11 := by rw [a73a, a69b]
  rw [a73a, a69b, nV_e 11 12 rfl] at a73b
  rw [nS_e a73u] at a73c
  intro U74 a76a V75 a76b
  rw [a76a, a73b] at a76b
  try rw [a73u] at a76b
  rw [fV_e] at a76b
  intro U77 a80a V78 a80b S79 a80c
  have a80u : U77.1 = 12 := by rw [a80a, a76b]
  rw [a80a, a76b, nV_e 12 13 rfl] at a80b
  rw [nS_e a80u] at a80c
  intro U81 a83a V82 a83b
  rw [a83a, a80b] at a83b
  try rw [a80u] at a83b
  rw [fV_e] at a83b
  intro U84 a87a V85 a87b S86 a87c
  have a87u : U84.1 = 13 := by rw [a87a, a83b]
  rw [a87a, a83b, nV_e 13 14 rfl] at a87b
  rw [nS_e a87u] at a87c
  intro U88 a90a V89 a90b
  rw [a90a, a87b] at a90b
  try rw [a87u] at a90b
  rw [fV_e] at a90b
  intro U91 a94a V92 a94b S93 a94c
  have a94u : U91.1 = 14 := by rw [a94a, a90b]
  rw [a94a, a90b, nV_e 14 15 rfl] at a94b
  rw [nS_e a94u] at a94c
  intro U95 a97a V96 a97b
  rw [a97a, a94b] at a97b
  try rw [a94u] at a97b
  rw [fV_e] at a97b
  intro U98 a101a V99 a101b S100 a101c
  have a101u : U98.1 = 15 := by rw [a101a, a97b]
  rw [a101a, a97b, nV_e 15 16 rfl] at a101b
  rw [nS_e a101u] at a101c
  intro U102 a104a V103 a104b
  rw [a104a, a101b] at a104b
  try rw [a101u] at a104b
  rw [fV_e] at a104b
  intro U105 a108a V106 a108b S107 a108c
  have a108u : U105.1 = 16 := by rw [a108a, a104b]
  rw [a108a, a104b, nV_e 16 17 rfl] at a108b
  rw [nS_e a108u] at a108c
  intro U109 a111a V110 a111b
  rw [a111a, a108b] at a111b
  try rw [a108u] at a111b
  rw [fV_e] at a111b
  intro U112 a115a V113 a115b S114 a115c
  have a115u : U112.1 = 17 := by rw [a115a, a111b]
  rw [a115a, a111b, nV_e 17 18 rfl] at a115b
  rw [nS_e a115u] at a115c
  try unfold PT_X5_init
  try rw [a115u]
  intro U116 a119a V117 a119b S118 a119c
  have a119u : U116.1 = 18 := by rw [a119a, a115b]
  rw [a119a, a115b, nV_e 18 19 rfl] at a119b
  rw [nS_e a119u] at a119c
  intro U120 a122a V121 a122b
  rw [a122a, a119b] at a122b
  try rw [a119u] at a122b
  rw [fV_e] at a122b
  intro U123 a126a V124 a126b S125 a126c
  have a126u : U123.1 = 19 := by rw [a126a, a122b]
  rw [a126a, a122b, nV_e 19 20 rfl] at a126b
  rw [nS_e a126u] at a126c
  intro U127 a129a V128 a129b
  rw [a129a, a126b] at a129b
  try rw [a126u] at a129b
  rw [fV_e] at a129b
  intro U130 a133a V131 a133b S132 a133c
  have a133u : U130.1 = 20 := by rw [a133a, a129b]
  rw [a133a, a129b, nV_e 20 21 rfl] at a133b
  rw [nS_e a133u] at a133c
  intro U134 a136a V135 a136b
  rw [a136a, a133b] at a136b
  try rw [a133u] at a136b
  rw [fV_e] at a136b
  intro U137 a140a V138 a140b S139 a140c
  have a140u : U137.1 = 21 := by rw [a140a, a136b]
  rw [a140a, a136b, nV_e 21 22 rfl] at a140b
  rw [nS_e a140u] at a140c
  intro U141 a143a V142 a143b
  rw [a143a, a140b] at a143b
  try rw [a140u] at a143b
  rw [fV_e] at a143b
  intro U144 a147a V145 a147b S146 a147c
  have a147u : U144.1 = 22 := by rw [a147a, a143b]
  rw [a147a, a143b, nV_e 22 23 rfl] at a147b
  rw [nS_e a147u] at a147c
  intro U148 a150a V149 a150b
  rw [a150a, a147b] at a150b
  try rw [a147u] at a150b
  rw [fV_e] at a150b
  intro U151 a154a V152 a154b S153 a154c
  have a154u : U151.1 = 23 := by rw [a154a, a150b]
  rw [a154a, a150b, nV_e 23 24 rfl] at a154b
  rw [nS_e a154u] at a154c
  intro U155 a157a V156 a157b
  rw [a157a, a154b] at a157b
  try rw [a154u] at a157b
  rw [fV_e] at a157b
  intro U158 a161a V159 a161b S160 a161c
  have a161u : U158.1 = 24 := by rw [a161a, a157b]
  rw [a161a, a157b, nV_e 24 25 rfl] at a161b
  rw [nS_e a161u] at a161c
  intro U162 a164a V163 a164b
  rw [a164a, a161b] at a164b
  try rw [a161u] at a164b
  rw [fV_e] at a164b
  have f166x : fX5 V163 17 := by rw [a164b]; unfold fX5; decide +kernel
  refine ⟨f166x, p_forget f166x (fun S165 f166a f166b f166c f166d f166e => ?_)⟩
  intro U167 a169a V168 a169b
  rw [a169a, a164b] at a169b
  try rw [a115u] at a169b
  rw [fV_e] at a169b
  intro S170 a171c
  intro S172 a173c
  intro U174 a176a V175 a176b
  rw [a176a, a169b] at a176b
  try rw [a69u] at a176b
  rw [fV_e] at a176b
  intro U177 a180a V178 a180b S179 a180c
  have a180u : U177.1 = 25 := by rw [a180a, a176b]
  rw [a180a, a176b, nV_e 25 26 rfl] at a180b
  rw [nS_e a180u] at a180c
  try unfold PT_X4_init
  try rw [a180u]
  intro U181 a184a V182 a184b S183 a184c
  have a184u : U181.1 = 26 := by rw [a184a, a180b]
  rw [a184a, a180b, nV_e 26 27 rfl] at a184b
  rw [nS_e a184u] at a184c
  intro U185 a187a V186 a187b
  rw [a187a, a184b] at a187b
  try rw [a184u] at a187b
  rw [fV_e] at a187b
  intro U188 a191a V189 a191b S190 a191c
  have a191u : U188.1 = 27 := by rw [a191a, a187b]
  rw [a191a, a187b, nV_e 27 28 rfl] at a191b
  rw [nS_e a191u] at a191c
  intro S192 a193c
  try rw [a191u] at a193c
  change S192 = sI S190 27 0 (-2) at a193c
  intro S194 a195c
  try rw [a191u] at a195c
  change S194 = sI S192 27 1 (-2) at a195c
  intro S196 a197c
  try rw [a191u] at a197c
  change S196 = sI S194 27 2 (-2) at a197c
  intro S198 a199c
  try rw [a191u] at a199c
  change S198 = sI S196 27 3 (-2) at a199c
  intro U200 a202a V201 a202b
  rw [a202a, a191b] at a202b
  try rw [a191u] at a202b
  rw [fV_e] at a202b
  intro U203 a205a V204 a205b
  rw [a205a, a202b] at a205b
  try rw [a180u] at a205b
  rw [fV_e] at a205b
  intro U206 a209a V207 a209b S208 a209c
  have a209u : U206.1 = 28 := by rw [a209a, a205b]
  rw [a209a, a205b, nV_e 28 29 rfl] at a209b
  rw [nS_e a209u] at a209c
  try unfold PT_X7_init
  try rw [a209u]
  intro U210 a213a V211 a213b S212 a213c
  have a213u : U210.1 = 29 := by rw [a213a, a209b]
  rw [a213a, a209b, nV_e 29 30 rfl] at a213b
  rw [nS_e a213u] at a213c
  intro U214 a216a V215 a216b
  rw [a216a, a213b] at a216b
  try rw [a213u] at a216b
  rw [fV_e] at a216b
  intro U217 a220a V218 a220b S219 a220c
  have a220u : U217.1 = 30 := by rw [a220a, a216b]
  rw [a220a, a216b, nV_e 30 31 rfl] at a220b
  rw [nS_e a220u] at a220c
  intro U221 a223a V222 a223b
  rw [a223a, a220b] at a223b
  try rw [a220u] at a223b
  rw [fV_e] at a223b
  intro U224 a227a V225 a227b S226 a227c
  have a227u : U224.1 = 31 := by rw [a227a, a223b]
  rw [a227a, a223b, nV_e 31 32 rfl] at a227b
  rw [nS_e a227u] at a227c
  intro U228 a230a V229 a230b
  rw [a230a, a227b] at a230b
  try rw [a227u] at a230b
  rw [fV_e] at a230b
  intro U231 a234a V232 a234b S233 a234c
  have a234u : U231.1 = 32 := by rw [a234a, a230b]
  rw [a234a, a230b, nV_e 32 33 rfl] at a234b
  rw [nS_e a234u] at a234c
  intro S235 a236c
  try rw [a234u] at a236c
  change S235 = sI S233 32 0 (-2) at a236c
  intro S237 a238c
  try rw [a234u] at a238c
  change S237 = sI S235 32 1 (-2) at a238c
  intro S239 a240c
  try rw [a234u] at a240c
  change S239 = sI S237 32 2 (-2) at a240c
  intro S241 a242c
  try rw [a234u] at a242c
  change S241 = sI S239 32 3 (-2) at a242c
  intro U243 a245a V244 a245b
  rw [a245a, a234b] at a245b
  try rw [a234u] at a245b
  rw [fV_e] at a245b
  intro S246 a247c
  intro S248 a249c
  intro S250 a251c
  intro S252 a253c
  intro S254 a255c
  intro S256 a257c
  intro S258 a259c
  intro U260 a262a V261 a262b
  rw [a262a, a245b] at a262b
  try rw [a209u] at a262b
  rw [fV_e] at a262b
  intro U263 a266a V264 a266b S265 a266c
  have a266u : U263.1 = 33 := by rw [a266a, a262b]
  rw [a266a, a262b, nV_e 33 34 rfl] at a266b
  rw [nS_e a266u] at a266c
  intro U267 a269a V268 a269b
  rw [a269a, a266b] at a269b
  try rw [a266u] at a269b
  rw [fV_e] at a269b
  intro S270 a271c
  intro S272 a273c
  intro S274 a275c
  intro S276 a277c
  intro S278 a279c
  intro S280 a281c
  intro S282 a283c
  intro S284 a285c
  intro S286 a287c
  intro S288 a289c
  intro q290 a291q
  have a291r : q290 = some 1 := by rw [a291q, a269b]; decide +kernel
  refine ⟨1, a291r, by rw [a269b]; decide +kernel, by rw [a269b]; decide +kernel, ?_⟩
  intro S292 a293c
  intro q294 a295q
  have a295r : q294 = some 33 := by rw [a295q, a269b]; decide +kernel
  intro U296 a299a V297 a299b S298 a299c
  have a299u : U296.1 = 34 := by rw [a299a, a269b]
  rw [a299a, a269b, nV_e 34 35 rfl] at a299b
  rw [nS_e a299u] at a299c
  try unfold PT_X8_init
  try rw [a299u]
  intro S300 a301c
  intro S302 a303c
  intro S304 a305c
  refine ⟨33, a295r, by rw [a299b]; decide +kernel, by rw [a299b]; decide +kernel, ?_⟩
  intro S306 a307c
  try rw [a299u] at a307c
  change S306 = sP S304 33 0 (some 34) at a307c
  intro q308 a309q
  have a309r : q308 = some 33 := by rw [a309q, a299b]; decide +kernel
  intro U310 a313a V311 a313b S312 a313c
  have a313u : U310.1 = 35 := by rw [a313a, a299b]
  rw [a313a, a299b, nV_e 35 36 rfl] at a313b
  rw [nS_e a313u] at a313c
  try unfold PT_X8_init
  try rw [a313u]
  intro S314 a315c
  intro S316 a317c
  intro S318 a319c
  refine ⟨33, a309r, by rw [a313b]; decide +kernel, by rw [a313b]; decide +kernel, ?_⟩
  intro S320 a321c
  try rw [a313u] at a321c
  change S320 = sP S318 33 1 (some 35) at a321c
  intro q322 a323q
  have a323r : q322 = some 33 := by rw [a323q, a313b]; decide +kernel
  intro U324 a327a V325 a327b S326 a327c
  have a327u : U324.1 = 36 := by rw [a327a, a313b]
  rw [a327a, a313b, nV_e 36 37 rfl] at a327b
  rw [nS_e a327u] at a327c
  try unfold PT_X8_init
  try rw [a327u]
  intro S328 a329c
  intro S330 a331c
  intro S332 a333c
  refine ⟨33, a323r, by rw [a327b]; decide +kernel, by rw [a327b]; decide +kernel, ?_⟩
  intro S334 a335c
  try rw [a327u] at a335c
  change S334 = sP S332 33 2 (some 36) at a335c
  intro q336 a337q
  have a337r : q336 = some 33 := by rw [a337q, a327b]; decide +kernel
  intro U338 a341a V339 a341b S340 a341c
  have a341u : U338.1 = 37 := by rw [a341a, a327b]
  rw [a341a, a327b, nV_e 37 38 rfl] at a341b
  rw [nS_e a341u] at a341c
  try unfold PT_X8_init
  try rw [a341u]
  intro S342 a343c
  intro S344 a345c
  intro S346 a347c
  refine ⟨33, a337r, by rw [a341b]; decide +kernel, by rw [a341b]; decide +kernel, ?_⟩
  intro S348 a349c
  try rw [a341u] at a349c
  change S348 = sP S346 33 3 (some 37) at a349c
  intro q350 a351q
  have a351r : q350 = some 33 := by rw [a351q, a341b]; decide +kernel
  intro U352 a355a V353 a355b S354 a355c
  have a355u : U352.1 = 38 := by rw [a355a, a341b]
  rw [a355a, a341b, nV_e 38 39 rfl] at a355b
  rw [nS_e a355u] at a355c
  try unfold PT_X8_init
  try rw [a355u]
  intro S356 a357c
  intro S358 a359c
  intro S360 a361c
  refine ⟨33, a351r, by rw [a355b]; decide +kernel, by rw [a355b]; decide +kernel, ?_⟩
  intro S362 a363c
  try rw [a355u] at a363c
  change S362 = sP S360 33 4 (some 38) at a363c
  intro q364 a365q
  have a365r : q364 = some 33 := by rw [a365q, a355b]; decide +kernel
  intro U366 a369a V367 a369b S368 a369c
  have a369u : U366.1 = 39 := by rw [a369a, a355b]
  rw [a369a, a355b, nV_e 39 40 rfl] at a369b
  rw [nS_e a369u] at a369c
  try unfold PT_X8_init
  try rw [a369u]
  intro S370 a371c
  intro S372 a373c
  intro S374 a375c
  refine ⟨33, a365r, by rw [a369b]; decide +kernel, by rw [a369b]; decide +kernel, ?_⟩
  intro S376 a377c
  try rw [a369u] at a377c
  change S376 = sP S374 33 5 (some 39) at a377c
  intro q378 a379q
  have a379r : q378 = some 33 := by rw [a379q, a369b]; decide +kernel
  intro U380 a383a V381 a383b S382 a383c
  have a383u : U380.1 = 40 := by rw [a383a, a369b]
  rw [a383a, a369b, nV_e 40 41 rfl] at a383b
  rw [nS_e a383u] at a383c
  try unfold PT_X8_init
  try rw [a383u]
  intro S384 a385c
  intro S386 a387c
  intro S388 a389c
  refine ⟨33, a379r, by rw [a383b]; decide +kernel, by rw [a383b]; decide +kernel, ?_⟩
  intro S390 a391c
  try rw [a383u] at a391c
  change S390 = sP S388 33 6 (some 40) at a391c
  intro q392 a393q
  have a393r : q392 = some 33 := by rw [a393q, a383b]; decide +kernel
  intro U394 a397a V395 a397b S396 a397c
  have a397u : U394.1 = 41 := by rw [a397a, a383b]
  rw [a397a, a383b, nV_e 41 42 rfl] at a397b
  rw [nS_e a397u] at a397c
  try unfold PT_X8_init
  try rw [a397u]
  intro S398 a399c
  intro S400 a401c
  intro S402 a403c
  refine ⟨33, a393r, by rw [a397b]; decide +kernel, by rw [a397b]; decide +kernel, ?_⟩
  intro S404 a405c
  try rw [a397u] at a405c
  change S404 = sP S402 33 7 (some 41) at a405c
  have past : ∀ b, 2 ≤ b → b ≤ 9 → S404.1 b = S61.1 b := by
    intro b b1 b2
    have hb : b = 2 ∨ b = 3 ∨ b = 4 ∨ b = 5 ∨ b = 6 ∨ b = 7 ∨ b = 8 ∨ b = 9 := by omega
    rcases hb with rfl | rfl | rfl | rfl | rfl | rfl | rfl | rfl
    · rw [a405c, sP_1, a403c, sI_na (by decide), a401c, sP_1, a399c, sP_1, a397c, nZ_1 (by decide), a391c, sP_1, a389c, sI_na (by decide), a387c, sP_1, a385c, sP_1, a383c, nZ_1 (by decide), a377c, sP_1, a375c, sI_na (by decide), a373c, sP_1, a371c, sP_1, a369c, nZ_1 (by decide), a363c, sP_1, a361c, sI_na (by decide), a359c, sP_1, a357c, sP_1, a355c, nZ_1 (by decide), a349c, sP_1, a347c, sI_na (by decide), a345c, sP_1, a343c, sP_1, a341c, nZ_1 (by decide), a335c, sP_1, a333c, sI_na (by decide), a331c, sP_1, a329c, sP_1, a327c, nZ_1 (by decide), a321c, sP_1, a319c, sI_na (by decide), a317c, sP_1, a315c, sP_1, a313c, nZ_1 (by decide), a307c, sP_1, a305c, sI_na (by decide), a303c, sP_1, a301c, sP_1, a299c, nZ_1 (by decide), a293c, tc_na (by decide), a289c, sP_1, a287c, sI_na (by decide), a285c, sI_na (by decide), a283c, sI_na (by decide), a281c, sI_na (by decide), a279c, sI_na (by decide), a277c, sI_na (by decide), a275c, sI_na (by decide), a273c, sI_na (by decide), a271c, sI_na (by decide), a266c, nZ_1 (by decide), a259c, sI_na (by decide), a257c, sI_na (by decide), a255c, sI_na (by decide), a253c, sI_na (by decide), a251c, sI_na (by decide), a249c, sP_1, a247c, sP_1, a242c, sI_na (by decide), a240c, sI_na (by decide), a238c, sI_na (by decide), a236c, sI_na (by decide), a234c, nZ_1 (by decide), a227c, nZ_1 (by decide), a220c, nZ_1 (by decide), a213c, nZ_1 (by decide), a209c, nZ_1 (by decide), a199c, sI_na (by decide), a197c, sI_na (by decide), a195c, sI_na (by decide), a193c, sI_na (by decide), a191c, nZ_1 (by decide), a184c, nZ_1 (by decide), a180c, nZ_1 (by decide), a173c, sI_na (by decide), a171c, sI_na (by decide), f166b _ (by decide), a161c, nZ_1 (by decide), a154c, nZ_1 (by decide), a147c, nZ_1 (by decide), a140c, nZ_1 (by decide), a133c, nZ_1 (by decide), a126c, nZ_1 (by decide), a119c, nZ_1 (by decide), a115c, nZ_1 (by decide), a108c, nZ_1 (by decide), a101c, nZ_1 (by decide), a94c, nZ_1 (by decide), a87c, nZ_1 (by decide), a80c, nZ_1 (by decide), a73c, nZ_1 (by decide), a69c, nZ_1 (by decide)]
    · rw [a405c, sP_1, a403c, sI_na (by decide), a401c, sP_1, a399c, sP_1, a397c, nZ_1 (by decide), a391c, sP_1, a389c, sI_na (by decide), a387c, sP_1, a385c, sP_1, a383c, nZ_1 (by decide), a377c, sP_1, a375c, sI_na (by decide), a373c, sP_1, a371c, sP_1, a369c, nZ_1 (by decide), a363c, sP_1, a361c, sI_na (by decide), a359c, sP_1, a357c, sP_1, a355c, nZ_1 (by decide), a349c, sP_1, a347c, sI_na (by decide), a345c, sP_1, a343c, sP_1, a341c, nZ_1 (by decide), a335c, sP_1, a333c, sI_na (by decide), a331c, sP_1, a329c, sP_1, a327c, nZ_1 (by decide), a321c, sP_1, a319c, sI_na (by decide), a317c, sP_1, a315c, sP_1, a313c, nZ_1 (by decide), a307c, sP_1, a305c, sI_na (by decide), a303c, sP_1, a301c, sP_1, a299c, nZ_1 (by decide), a293c, tc_na (by decide), a289c, sP_1, a287c, sI_na (by decide), a285c, sI_na (by decide), a283c, sI_na (by decide), a281c, sI_na (by decide), a279c, sI_na (by decide), a277c, sI_na (by decide), a275c, sI_na (by decide), a273c, sI_na (by decide), a271c, sI_na (by decide), a266c, nZ_1 (by decide), a259c, sI_na (by decide), a257c, sI_na (by decide), a255c, sI_na (by decide), a253c, sI_na (by decide), a251c, sI_na (by decide), a249c, sP_1, a247c, sP_1, a242c, sI_na (by decide), a240c, sI_na (by decide), a238c, sI_na (by decide), a236c, sI_na (by decide), a234c, nZ_1 (by decide), a227c, nZ_1 (by decide), a220c, nZ_1 (by decide), a213c, nZ_1 (by decide), a209c, nZ_1 (by decide), a199c, sI_na (by decide), a197c, sI_na (by decide), a195c, sI_na (by decide), a193c, sI_na (by decide), a191c, nZ_1 (by decide), a184c, nZ_1 (by decide), a180c, nZ_1 (by decide), a173c, sI_na (by decide), a171c, sI_na (by decide), f166b _ (by decide), a161c, nZ_1 (by decide), a154c, nZ_1 (by decide), a147c, nZ_1 (by decide), a140c, nZ_1 (by decide), a133c, nZ_1 (by decide), a126c, nZ_1 (by decide), a119c, nZ_1 (by decide), a115c, nZ_1 (by decide), a108c, nZ_1 (by decide), a101c, nZ_1 (by decide), a94c, nZ_1 (by decide), a87c, nZ_1 (by decide), a80c, nZ_1 (by decide), a73c, nZ_1 (by decide), a69c, nZ_1 (by decide)]
    · rw [a405c, sP_1, a403c, sI_na (by decide), a401c, sP_1, a399c, sP_1, a397c, nZ_1 (by decide), a391c, sP_1, a389c, sI_na (by decide), a387c, sP_1, a385c, sP_1, a383c, nZ_1 (by decide), a377c, sP_1, a375c, sI_na (by decide), a373c, sP_1, a371c, sP_1, a369c, nZ_1 (by decide), a363c, sP_1, a361c, sI_na (by decide), a359c, sP_1, a357c, sP_1, a355c, nZ_1 (by decide), a349c, sP_1, a347c, sI_na (by decide), a345c, sP_1, a343c, sP_1, a341c, nZ_1 (by decide), a335c, sP_1, a333c, sI_na (by decide), a331c, sP_1, a329c, sP_1, a327c, nZ_1 (by decide), a321c, sP_1, a319c, sI_na (by decide), a317c, sP_1, a315c, sP_1, a313c, nZ_1 (by decide), a307c, sP_1, a305c, sI_na (by decide), a303c, sP_1, a301c, sP_1, a299c, nZ_1 (by decide), a293c, tc_na (by decide), a289c, sP_1, a287c, sI_na (by decide), a285c, sI_na (by decide), a283c, sI_na (by decide), a281c, sI_na (by decide), a279c, sI_na (by decide), a277c, sI_na (by decide), a275c, sI_na (by decide), a273c, sI_na (by decide), a271c, sI_na (by decide), a266c, nZ_1 (by decide), a259c, sI_na (by decide), a257c, sI_na (by decide), a255c, sI_na (by decide), a253c, sI_na (by decide), a251c, sI_na (by decide), a249c, sP_1, a247c, sP_1, a242c, sI_na (by decide), a240c, sI_na (by decide), a238c, sI_na (by decide), a236c, sI_na (by decide), a234c, nZ_1 (by decide), a227c, nZ_1 (by decide), a220c, nZ_1 (by decide), a213c, nZ_1 (by decide), a209c, nZ_1 (by decide), a199c, sI_na (by decide), a197c, sI_na (by decide), a195c, sI_na (by decide), a193c, sI_na (by decide), a191c, nZ_1 (by decide), a184c, nZ_1 (by decide), a180c, nZ_1 (by decide), a173c, sI_na (by decide), a171c, sI_na (by decide), f166b _ (by decide), a161c, nZ_1 (by decide), a154c, nZ_1 (by decide), a147c, nZ_1 (by decide), a140c, nZ_1 (by decide), a133c, nZ_1 (by decide), a126c, nZ_1 (by decide), a119c, nZ_1 (by decide), a115c, nZ_1 (by decide), a108c, nZ_1 (by decide), a101c, nZ_1 (by decide), a94c, nZ_1 (by decide), a87c, nZ_1 (by decide), a80c, nZ_1 (by decide), a73c, nZ_1 (by decide), a69c, nZ_1 (by decide)]
    · rw [a405c, sP_1, a403c, sI_na (by decide), a401c, sP_1, a399c, sP_1, a397c, nZ_1 (by decide), a391c, sP_1, a389c, sI_na (by decide), a387c, sP_1, a385c, sP_1, a383c, nZ_1 (by decide), a377c, sP_1, a375c, sI_na (by decide), a373c, sP_1, a371c, sP_1, a369c, nZ_1 (by decide), a363c, sP_1, a361c, sI_na (by decide), a359c, sP_1, a357c, sP_1, a355c, nZ_1 (by decide), a349c, sP_1, a347c, sI_na (by decide), a345c, sP_1, a343c, sP_1, a341c, nZ_1 (by decide), a335c, sP_1, a333c, sI_na (by decide), a331c, sP_1, a329c, sP_1, a327c, nZ_1 (by decide), a321c, sP_1, a319c, sI_na (by decide), a317c, sP_1, a315c, sP_1, a313c, nZ_1 (by decide), a307c, sP_1, a305c, sI_na (by decide), a303c, sP_1, a301c, sP_1, a299c, nZ_1 (by decide), a293c, tc_na (by decide), a289c, sP_1, a287c, sI_na (by decide), a285c, sI_na (by decide), a283c, sI_na (by decide), a281c, sI_na (by decide), a279c, sI_na (by decide), a277c, sI_na (by decide), a275c, sI_na (by decide), a273c, sI_na (by decide), a271c, sI_na (by decide), a266c, nZ_1 (by decide), a259c, sI_na (by decide), a257c, sI_na (by decide), a255c, sI_na (by decide), a253c, sI_na (by decide), a251c, sI_na (by decide), a249c, sP_1, a247c, sP_1, a242c, sI_na (by decide), a240c, sI_na (by decide), a238c, sI_na (by decide), a236c, sI_na (by decide), a234c, nZ_1 (by decide), a227c, nZ_1 (by decide), a220c, nZ_1 (by decide), a213c, nZ_1 (by decide), a209c, nZ_1 (by decide), a199c, sI_na (by decide), a197c, sI_na (by decide), a195c, sI_na (by decide), a193c, sI_na (by decide), a191c, nZ_1 (by decide), a184c, nZ_1 (by decide), a180c, nZ_1 (by decide), a173c, sI_na (by decide), a171c, sI_na (by decide), f166b _ (by decide), a161c, nZ_1 (by decide), a154c, nZ_1 (by decide), a147c, nZ_1 (by decide), a140c, nZ_1 (by decide), a133c, nZ_1 (by decide), a126c, nZ_1 (by decide), a119c, nZ_1 (by decide), a115c, nZ_1 (by decide), a108c, nZ_1 (by decide), a101c, nZ_1 (by decide), a94c, nZ_1 (by decide), a87c, nZ_1 (by decide), a80c, nZ_1 (by decide), a73c, nZ_1 (by decide), a69c, nZ_1 (by decide)]
    · rw [a405c, sP_1, a403c, sI_na (by decide), a401c, sP_1, a399c, sP_1, a397c, nZ_1 (by decide), a391c, sP_1, a389c, sI_na (by decide), a387c, sP_1, a385c, sP_1, a383c, nZ_1 (by decide), a377c, sP_1, a375c, sI_na (by decide), a373c, sP_1, a371c, sP_1, a369c, nZ_1 (by decide), a363c, sP_1, a361c, sI_na (by decide), a359c, sP_1, a357c, sP_1, a355c, nZ_1 (by decide), a349c, sP_1, a347c, sI_na (by decide), a345c, sP_1, a343c, sP_1, a341c, nZ_1 (by decide), a335c, sP_1, a333c, sI_na (by decide), a331c, sP_1, a329c, sP_1, a327c, nZ_1 (by decide), a321c, sP_1, a319c, sI_na (by decide), a317c, sP_1, a315c, sP_1, a313c, nZ_1 (by decide), a307c, sP_1, a305c, sI_na (by decide), a303c, sP_1, a301c, sP_1, a299c, nZ_1 (by decide), a293c, tc_na (by decide), a289c, sP_1, a287c, sI_na (by decide), a285c, sI_na (by decide), a283c, sI_na (by decide), a281c, sI_na (by decide), a279c, sI_na (by decide), a277c, sI_na (by decide), a275c, sI_na (by decide), a273c, sI_na (by decide), a271c, sI_na (by decide), a266c, nZ_1 (by decide), a259c, sI_na (by decide), a257c, sI_na (by decide), a255c, sI_na (by decide), a253c, sI_na (by decide), a251c, sI_na (by decide), a249c, sP_1, a247c, sP_1, a242c, sI_na (by decide), a240c, sI_na (by decide), a238c, sI_na (by decide), a236c, sI_na (by decide), a234c, nZ_1 (by decide), a227c, nZ_1 (by decide), a220c, nZ_1 (by decide), a213c, nZ_1 (by decide), a209c, nZ_1 (by decide), a199c, sI_na (by decide), a197c, sI_na (by decide), a195c, sI_na (by decide), a193c, sI_na (by decide), a191c, nZ_1 (by decide), a184c, nZ_1 (by decide), a180c, nZ_1 (by decide), a173c, sI_na (by decide), a171c, sI_na (by decide), f166b _ (by decide), a161c, nZ_1 (by decide), a154c, nZ_1 (by decide), a147c, nZ_1 (by decide), a140c, nZ_1 (by decide), a133c, nZ_1 (by decide), a126c, nZ_1 (by decide), a119c, nZ_1 (by decide), a115c, nZ_1 (by decide), a108c, nZ_1 (by decide), a101c, nZ_1 (by decide), a94c, nZ_1 (by decide), a87c, nZ_1 (by decide), a80c, nZ_1 (by decide), a73c, nZ_1 (by decide), a69c, nZ_1 (by decide)]
    · rw [a405c, sP_1, a403c, sI_na (by decide), a401c, sP_1, a399c, sP_1, a397c, nZ_1 (by decide), a391c, sP_1, a389c, sI_na (by decide), a387c, sP_1, a385c, sP_1, a383c, nZ_1 (by decide), a377c, sP_1, a375c, sI_na (by decide), a373c, sP_1, a371c, sP_1, a369c, nZ_1 (by decide), a363c, sP_1, a361c, sI_na (by decide), a359c, sP_1, a357c, sP_1, a355c, nZ_1 (by decide), a349c, sP_1, a347c, sI_na (by decide), a345c, sP_1, a343c, sP_1, a341c, nZ_1 (by decide), a335c, sP_1, a333c, sI_na (by decide), a331c, sP_1, a329c, sP_1, a327c, nZ_1 (by decide), a321c, sP_1, a319c, sI_na (by decide), a317c, sP_1, a315c, sP_1, a313c, nZ_1 (by decide), a307c, sP_1, a305c, sI_na (by decide), a303c, sP_1, a301c, sP_1, a299c, nZ_1 (by decide), a293c, tc_na (by decide), a289c, sP_1, a287c, sI_na (by decide), a285c, sI_na (by decide), a283c, sI_na (by decide), a281c, sI_na (by decide), a279c, sI_na (by decide), a277c, sI_na (by decide), a275c, sI_na (by decide), a273c, sI_na (by decide), a271c, sI_na (by decide), a266c, nZ_1 (by decide), a259c, sI_na (by decide), a257c, sI_na (by decide), a255c, sI_na (by decide), a253c, sI_na (by decide), a251c, sI_na (by decide), a249c, sP_1, a247c, sP_1, a242c, sI_na (by decide), a240c, sI_na (by decide), a238c, sI_na (by decide), a236c, sI_na (by decide), a234c, nZ_1 (by decide), a227c, nZ_1 (by decide), a220c, nZ_1 (by decide), a213c, nZ_1 (by decide), a209c, nZ_1 (by decide), a199c, sI_na (by decide), a197c, sI_na (by decide), a195c, sI_na (by decide), a193c, sI_na (by decide), a191c, nZ_1 (by decide), a184c, nZ_1 (by decide), a180c, nZ_1 (by decide), a173c, sI_na (by decide), a171c, sI_na (by decide), f166b _ (by decide), a161c, nZ_1 (by decide), a154c, nZ_1 (by decide), a147c, nZ_1 (by decide), a140c, nZ_1 (by decide), a133c, nZ_1 (by decide), a126c, nZ_1 (by decide), a119c, nZ_1 (by decide), a115c, nZ_1 (by decide), a108c, nZ_1 (by decide), a101c, nZ_1 (by decide), a94c, nZ_1 (by decide), a87c, nZ_1 (by decide), a80c, nZ_1 (by decide), a73c, nZ_1 (by decide), a69c, nZ_1 (by decide)]
    · rw [a405c, sP_1, a403c, sI_na (by decide), a401c, sP_1, a399c, sP_1, a397c, nZ_1 (by decide), a391c, sP_1, a389c, sI_na (by decide), a387c, sP_1, a385c, sP_1, a383c, nZ_1 (by decide), a377c, sP_1, a375c, sI_na (by decide), a373c, sP_1, a371c, sP_1, a369c, nZ_1 (by decide), a363c, sP_1, a361c, sI_na (by decide), a359c, sP_1, a357c, sP_1, a355c, nZ_1 (by decide), a349c, sP_1, a347c, sI_na (by decide), a345c, sP_1, a343c, sP_1, a341c, nZ_1 (by decide), a335c, sP_1, a333c, sI_na (by decide), a331c, sP_1, a329c, sP_1, a327c, nZ_1 (by decide), a321c, sP_1, a319c, sI_na (by decide), a317c, sP_1, a315c, sP_1, a313c, nZ_1 (by decide), a307c, sP_1, a305c, sI_na (by decide), a303c, sP_1, a301c, sP_1, a299c, nZ_1 (by decide), a293c, tc_na (by decide), a289c, sP_1, a287c, sI_na (by decide), a285c, sI_na (by decide), a283c, sI_na (by decide), a281c, sI_na (by decide), a279c, sI_na (by decide), a277c, sI_na (by decide), a275c, sI_na (by decide), a273c, sI_na (by decide), a271c, sI_na (by decide), a266c, nZ_1 (by decide), a259c, sI_na (by decide), a257c, sI_na (by decide), a255c, sI_na (by decide), a253c, sI_na (by decide), a251c, sI_na (by decide), a249c, sP_1, a247c, sP_1, a242c, sI_na (by decide), a240c, sI_na (by decide), a238c, sI_na (by decide), a236c, sI_na (by decide), a234c, nZ_1 (by decide), a227c, nZ_1 (by decide), a220c, nZ_1 (by decide), a213c, nZ_1 (by decide), a209c, nZ_1 (by decide), a199c, sI_na (by decide), a197c, sI_na (by decide), a195c, sI_na (by decide), a193c, sI_na (by decide), a191c, nZ_1 (by decide), a184c, nZ_1 (by decide), a180c, nZ_1 (by decide), a173c, sI_na (by decide), a171c, sI_na (by decide), f166b _ (by decide), a161c, nZ_1 (by decide), a154c, nZ_1 (by decide), a147c, nZ_1 (by decide), a140c, nZ_1 (by decide), a133c, nZ_1 (by decide), a126c, nZ_1 (by decide), a119c, nZ_1 (by decide), a115c, nZ_1 (by decide), a108c, nZ_1 (by decide), a101c, nZ_1 (by decide), a94c, nZ_1 (by decide), a87c, nZ_1 (by decide), a80c, nZ_1 (by decide), a73c, nZ_1 (by decide), a69c, nZ_1 (by decide)]
    · rw [a405c, sP_1, a403c, sI_na (by decide), a401c, sP_1, a399c, sP_1, a397c, nZ_1 (by decide), a391c, sP_1, a389c, sI_na (by decide), a387c, sP_1, a385c, sP_1, a383c, nZ_1 (by decide), a377c, sP_1, a375c, sI_na (by decide), a373c, sP_1, a371c, sP_1, a369c, nZ_1 (by decide), a363c, sP_1, a361c, sI_na (by decide), a359c, sP_1, a357c, sP_1, a355c, nZ_1 (by decide), a349c, sP_1, a347c, sI_na (by decide), a345c, sP_1, a343c, sP_1, a341c, nZ_1 (by decide), a335c, sP_1, a333c, sI_na (by decide), a331c, sP_1, a329c, sP_1, a327c, nZ_1 (by decide), a321c, sP_1, a319c, sI_na (by decide), a317c, sP_1, a315c, sP_1, a313c, nZ_1 (by decide), a307c, sP_1, a305c, sI_na (by decide), a303c, sP_1, a301c, sP_1, a299c, nZ_1 (by decide), a293c, tc_na (by decide), a289c, sP_1, a287c, sI_na (by decide), a285c, sI_na (by decide), a283c, sI_na (by decide), a281c, sI_na (by decide), a279c, sI_na (by decide), a277c, sI_na (by decide), a275c, sI_na (by decide), a273c, sI_na (by decide), a271c, sI_na (by decide), a266c, nZ_1 (by decide), a259c, sI_na (by decide), a257c, sI_na (by decide), a255c, sI_na (by decide), a253c, sI_na (by decide), a251c, sI_na (by decide), a249c, sP_1, a247c, sP_1, a242c, sI_na (by decide), a240c, sI_na (by decide), a238c, sI_na (by decide), a236c, sI_na (by decide), a234c, nZ_1 (by decide), a227c, nZ_1 (by decide), a220c, nZ_1 (by decide), a213c, nZ_1 (by decide), a209c, nZ_1 (by decide), a199c, sI_na (by decide), a197c, sI_na (by decide), a195c, sI_na (by decide), a193c, sI_na (by decide), a191c, nZ_1 (by decide), a184c, nZ_1 (by decide), a180c, nZ_1 (by decide), a173c, sI_na (by decide), a171c, sI_na (by decide), f166b _ (by decide), a161c, nZ_1 (by decide), a154c, nZ_1 (by decide), a147c, nZ_1 (by decide), a140c, nZ_1 (by decide), a133c, nZ_1 (by decide), a126c, nZ_1 (by decide), a119c, nZ_1 (by decide), a115c, nZ_1 (by decide), a108c, nZ_1 (by decide), a101c, nZ_1 (by decide), a94c, nZ_1 (by decide), a87c, nZ_1 (by decide), a80c, nZ_1 (by decide), a73c, nZ_1 (by decide), a69c, nZ_1 (by decide)]
  refine k _ _ ⟨⟨by rw [a397b], by unfold fX11 fX1 fX5 fX4 fX7; (repeat' apply And.intro) <;> (rw [a397b]; decide +kernel), by rw [a397b]; decide +kernel⟩, ⟨?_, ?_, ?_, ?_, ?_, ?_, ?_, ?_, ?_, ?_, ?_, ?_, ?_, ?_, ?_, ?_, ?_, ?_, ?_, ?_, ?_, ?_, ?_⟩, ⟨?_, ?_, ?_, ?_, ?_, ?_, ?_, ?_, ?_, ?_, ?_, ?_, ?_, ?_, ?_, ?_, ?_, ?_, ?_, ?_, ?_, ?_, ?_, ?_, ?_, ?_⟩, ⟨?_, ?_, ?_⟩, ⟨?_, ?_, ?_⟩⟩
  · rw [a405c, sP_1, a403c, sI_na (by decide), a401c, sP_1, a399c, sP_1, a397c, nZ_1 (by decide), a391c, sP_1, a389c, sI_na (by decide), a387c, sP_1, a385c, sP_1, a383c, nZ_1 (by decide), a377c, sP_1, a375c, sI_na (by decide), a373c, sP_1, a371c, sP_1, a369c, nZ_1 (by decide), a363c, sP_1, a361c, sI_na (by decide), a359c, sP_1, a357c, sP_1, a355c, nZ_1 (by decide), a349c, sP_1, a347c, sI_na (by decide), a345c, sP_1, a343c, sP_1, a341c, nZ_1 (by decide), a335c, sP_1, a333c, sI_na (by decide), a331c, sP_1, a329c, sP_1, a327c, nZ_1 (by decide), a321c, sP_1, a319c, sI_na (by decide), a317c, sP_1, a315c, sP_1, a313c, nZ_1 (by decide), a307c, sP_1, a305c, sI_na (by decide), a303c, sP_1, a301c, sP_1, a299c, nZ_1 (by decide), a293c, tc_na (by decide), a289c, sP_1, a287c, sI_ne (by decide), a285c, sI_ne (by decide), a283c, sI_ne (by decide), a281c, sI_ne (by decide), a279c, sI_ne (by decide), a277c, sI_ne (by decide), a275c, sI_ne (by decide), a273c, sI_ne (by decide), a271c, sI_eq]
  · rw [a405c, sP_1, a403c, sI_na (by decide), a401c, sP_1, a399c, sP_1, a397c, nZ_1 (by decide), a391c, sP_1, a389c, sI_na (by decide), a387c, sP_1, a385c, sP_1, a383c, nZ_1 (by decide), a377c, sP_1, a375c, sI_na (by decide), a373c, sP_1, a371c, sP_1, a369c, nZ_1 (by decide), a363c, sP_1, a361c, sI_na (by decide), a359c, sP_1, a357c, sP_1, a355c, nZ_1 (by decide), a349c, sP_1, a347c, sI_na (by decide), a345c, sP_1, a343c, sP_1, a341c, nZ_1 (by decide), a335c, sP_1, a333c, sI_na (by decide), a331c, sP_1, a329c, sP_1, a327c, nZ_1 (by decide), a321c, sP_1, a319c, sI_na (by decide), a317c, sP_1, a315c, sP_1, a313c, nZ_1 (by decide), a307c, sP_1, a305c, sI_na (by decide), a303c, sP_1, a301c, sP_1, a299c, nZ_1 (by decide), a293c, tc_na (by decide), a289c, sP_1, a287c, sI_ne (by decide), a285c, sI_ne (by decide), a283c, sI_ne (by decide), a281c, sI_ne (by decide), a279c, sI_ne (by decide), a277c, sI_ne (by decide), a275c, sI_ne (by decide), a273c, sI_eq]
  · rw [a405c, sP_1, a403c, sI_na (by decide), a401c, sP_1, a399c, sP_1, a397c, nZ_1 (by decide), a391c, sP_1, a389c, sI_na (by decide), a387c, sP_1, a385c, sP_1, a383c, nZ_1 (by decide), a377c, sP_1, a375c, sI_na (by decide), a373c, sP_1, a371c, sP_1, a369c, nZ_1 (by decide), a363c, sP_1, a361c, sI_na (by decide), a359c, sP_1, a357c, sP_1, a355c, nZ_1 (by decide), a349c, sP_1, a347c, sI_na (by decide), a345c, sP_1, a343c, sP_1, a341c, nZ_1 (by decide), a335c, sP_1, a333c, sI_na (by decide), a331c, sP_1, a329c, sP_1, a327c, nZ_1 (by decide), a321c, sP_1, a319c, sI_na (by decide), a317c, sP_1, a315c, sP_1, a313c, nZ_1 (by decide), a307c, sP_1, a305c, sI_na (by decide), a303c, sP_1, a301c, sP_1, a299c, nZ_1 (by decide), a293c, tc_na (by decide), a289c, sP_1, a287c, sI_ne (by decide), a285c, sI_ne (by decide), a283c, sI_ne (by decide), a281c, sI_ne (by decide), a279c, sI_ne (by decide), a277c, sI_ne (by decide), a275c, sI_eq]
  · rw [a405c, sP_1, a403c, sI_na (by decide), a401c, sP_1, a399c, sP_1, a397c, nZ_1 (by decide), a391c, sP_1, a389c, sI_na (by decide), a387c, sP_1, a385c, sP_1, a383c, nZ_1 (by decide), a377c, sP_1, a375c, sI_na (by decide), a373c, sP_1, a371c, sP_1, a369c, nZ_1 (by decide), a363c, sP_1, a361c, sI_na (by decide), a359c, sP_1, a357c, sP_1, a355c, nZ_1 (by decide), a349c, sP_1, a347c, sI_na (by decide), a345c, sP_1, a343c, sP_1, a341c, nZ_1 (by decide), a335c, sP_1, a333c, sI_na (by decide), a331c, sP_1, a329c, sP_1, a327c, nZ_1 (by decide), a321c, sP_1, a319c, sI_na (by decide), a317c, sP_1, a315c, sP_1, a313c, nZ_1 (by decide), a307c, sP_1, a305c, sI_na (by decide), a303c, sP_1, a301c, sP_1, a299c, nZ_1 (by decide), a293c, tc_na (by decide), a289c, sP_1, a287c, sI_ne (by decide), a285c, sI_ne (by decide), a283c, sI_ne (by decide), a281c, sI_ne (by decide), a279c, sI_ne (by decide), a277c, sI_eq]
  · rw [a405c, sP_1, a403c, sI_na (by decide), a401c, sP_1, a399c, sP_1, a397c, nZ_1 (by decide), a391c, sP_1, a389c, sI_na (by decide), a387c, sP_1, a385c, sP_1, a383c, nZ_1 (by decide), a377c, sP_1, a375c, sI_na (by decide), a373c, sP_1, a371c, sP_1, a369c, nZ_1 (by decide), a363c, sP_1, a361c, sI_na (by decide), a359c, sP_1, a357c, sP_1, a355c, nZ_1 (by decide), a349c, sP_1, a347c, sI_na (by decide), a345c, sP_1, a343c, sP_1, a341c, nZ_1 (by decide), a335c, sP_1, a333c, sI_na (by decide), a331c, sP_1, a329c, sP_1, a327c, nZ_1 (by decide), a321c, sP_1, a319c, sI_na (by decide), a317c, sP_1, a315c, sP_1, a313c, nZ_1 (by decide), a307c, sP_1, a305c, sI_na (by decide), a303c, sP_1, a301c, sP_1, a299c, nZ_1 (by decide), a293c, tc_na (by decide), a289c, sP_1, a287c, sI_ne (by decide), a285c, sI_ne (by decide), a283c, sI_ne (by decide), a281c, sI_ne (by decide), a279c, sI_eq]
  · rw [a405c, sP_1, a403c, sI_na (by decide), a401c, sP_1, a399c, sP_1, a397c, nZ_1 (by decide), a391c, sP_1, a389c, sI_na (by decide), a387c, sP_1, a385c, sP_1, a383c, nZ_1 (by decide), a377c, sP_1, a375c, sI_na (by decide), a373c, sP_1, a371c, sP_1, a369c, nZ_1 (by decide), a363c, sP_1, a361c, sI_na (by decide), a359c, sP_1, a357c, sP_1, a355c, nZ_1 (by decide), a349c, sP_1, a347c, sI_na (by decide), a345c, sP_1, a343c, sP_1, a341c, nZ_1 (by decide), a335c, sP_1, a333c, sI_na (by decide), a331c, sP_1, a329c, sP_1, a327c, nZ_1 (by decide), a321c, sP_1, a319c, sI_na (by decide), a317c, sP_1, a315c, sP_1, a313c, nZ_1 (by decide), a307c, sP_1, a305c, sI_na (by decide), a303c, sP_1, a301c, sP_1, a299c, nZ_1 (by decide), a293c, tc_na (by decide), a289c, sP_1, a287c, sI_ne (by decide), a285c, sI_ne (by decide), a283c, sI_ne (by decide), a281c, sI_eq]
  · rw [a405c, sP_1, a403c, sI_na (by decide), a401c, sP_1, a399c, sP_1, a397c, nZ_1 (by decide), a391c, sP_1, a389c, sI_na (by decide), a387c, sP_1, a385c, sP_1, a383c, nZ_1 (by decide), a377c, sP_1, a375c, sI_na (by decide), a373c, sP_1, a371c, sP_1, a369c, nZ_1 (by decide), a363c, sP_1, a361c, sI_na (by decide), a359c, sP_1, a357c, sP_1, a355c, nZ_1 (by decide), a349c, sP_1, a347c, sI_na (by decide), a345c, sP_1, a343c, sP_1, a341c, nZ_1 (by decide), a335c, sP_1, a333c, sI_na (by decide), a331c, sP_1, a329c, sP_1, a327c, nZ_1 (by decide), a321c, sP_1, a319c, sI_na (by decide), a317c, sP_1, a315c, sP_1, a313c, nZ_1 (by decide), a307c, sP_1, a305c, sI_na (by decide), a303c, sP_1, a301c, sP_1, a299c, nZ_1 (by decide), a293c, tc_na (by decide), a289c, sP_1, a287c, sI_ne (by decide), a285c, sI_ne (by decide), a283c, sI_eq]
  · rw [a405c, sP_1, a403c, sI_na (by decide), a401c, sP_1, a399c, sP_1, a397c, nZ_1 (by decide), a391c, sP_1, a389c, sI_na (by decide), a387c, sP_1, a385c, sP_1, a383c, nZ_1 (by decide), a377c, sP_1, a375c, sI_na (by decide), a373c, sP_1, a371c, sP_1, a369c, nZ_1 (by decide), a363c, sP_1, a361c, sI_na (by decide), a359c, sP_1, a357c, sP_1, a355c, nZ_1 (by decide), a349c, sP_1, a347c, sI_na (by decide), a345c, sP_1, a343c, sP_1, a341c, nZ_1 (by decide), a335c, sP_1, a333c, sI_na (by decide), a331c, sP_1, a329c, sP_1, a327c, nZ_1 (by decide), a321c, sP_1, a319c, sI_na (by decide), a317c, sP_1, a315c, sP_1, a313c, nZ_1 (by decide), a307c, sP_1, a305c, sI_na (by decide), a303c, sP_1, a301c, sP_1, a299c, nZ_1 (by decide), a293c, tc_na (by decide), a289c, sP_1, a287c, sI_ne (by decide), a285c, sI_eq]
  · rw [a405c, sP_1, a403c, sI_na (by decide), a401c, sP_1, a399c, sP_1, a397c, nZ_1 (by decide), a391c, sP_1, a389c, sI_na (by decide), a387c, sP_1, a385c, sP_1, a383c, nZ_1 (by decide), a377c, sP_1, a375c, sI_na (by decide), a373c, sP_1, a371c, sP_1, a369c, nZ_1 (by decide), a363c, sP_1, a361c, sI_na (by decide), a359c, sP_1, a357c, sP_1, a355c, nZ_1 (by decide), a349c, sP_1, a347c, sI_na (by decide), a345c, sP_1, a343c, sP_1, a341c, nZ_1 (by decide), a335c, sP_1, a333c, sI_na (by decide), a331c, sP_1, a329c, sP_1, a327c, nZ_1 (by decide), a321c, sP_1, a319c, sI_na (by decide), a317c, sP_1, a315c, sP_1, a313c, nZ_1 (by decide), a307c, sP_1, a305c, sI_na (by decide), a303c, sP_1, a301c, sP_1, a299c, nZ_1 (by decide), a293c, tc_na (by decide), a289c, sP_1, a287c, sI_na (by decide), a285c, sI_na (by decide), a283c, sI_na (by decide), a281c, sI_na (by decide), a279c, sI_na (by decide), a277c, sI_na (by decide), a275c, sI_na (by decide), a273c, sI_na (by decide), a271c, sI_na (by decide), a266c, nZ_1 (by decide), a259c, sI_na (by decide), a257c, sI_na (by decide), a255c, sI_na (by decide), a253c, sI_na (by decide), a251c, sI_na (by decide), a249c, sP_1, a247c, sP_1, a242c, sI_na (by decide), a240c, sI_na (by decide), a238c, sI_na (by decide), a236c, sI_na (by decide), a234c, nZ_1 (by decide), a227c, nZ_1 (by decide), a220c, nZ_1 (by decide), a213c, nZ_1 (by decide), a209c, nZ_1 (by decide), a199c, sI_na (by decide), a197c, sI_na (by decide), a195c, sI_na (by decide), a193c, sI_na (by decide), a191c, nZ_1 (by decide), a184c, nZ_1 (by decide), a180c, nZ_1 (by decide), a173c, sI_ne (by decide), a171c, sI_eq]
  · rw [a405c, sP_1, a403c, sI_na (by decide), a401c, sP_1, a399c, sP_1, a397c, nZ_1 (by decide), a391c, sP_1, a389c, sI_na (by decide), a387c, sP_1, a385c, sP_1, a383c, nZ_1 (by decide), a377c, sP_1, a375c, sI_na (by decide), a373c, sP_1, a371c, sP_1, a369c, nZ_1 (by decide), a363c, sP_1, a361c, sI_na (by decide), a359c, sP_1, a357c, sP_1, a355c, nZ_1 (by decide), a349c, sP_1, a347c, sI_na (by decide), a345c, sP_1, a343c, sP_1, a341c, nZ_1 (by decide), a335c, sP_1, a333c, sI_na (by decide), a331c, sP_1, a329c, sP_1, a327c, nZ_1 (by decide), a321c, sP_1, a319c, sI_na (by decide), a317c, sP_1, a315c, sP_1, a313c, nZ_1 (by decide), a307c, sP_1, a305c, sI_na (by decide), a303c, sP_1, a301c, sP_1, a299c, nZ_1 (by decide), a293c, tc_na (by decide), a289c, sP_1, a287c, sI_na (by decide), a285c, sI_na (by decide), a283c, sI_na (by decide), a281c, sI_na (by decide), a279c, sI_na (by decide), a277c, sI_na (by decide), a275c, sI_na (by decide), a273c, sI_na (by decide), a271c, sI_na (by decide), a266c, nZ_1 (by decide), a259c, sI_na (by decide), a257c, sI_na (by decide), a255c, sI_na (by decide), a253c, sI_na (by decide), a251c, sI_na (by decide), a249c, sP_1, a247c, sP_1, a242c, sI_na (by decide), a240c, sI_na (by decide), a238c, sI_na (by decide), a236c, sI_na (by decide), a234c, nZ_1 (by decide), a227c, nZ_1 (by decide), a220c, nZ_1 (by decide), a213c, nZ_1 (by decide), a209c, nZ_1 (by decide), a199c, sI_na (by decide), a197c, sI_na (by decide), a195c, sI_na (by decide), a193c, sI_na (by decide), a191c, nZ_1 (by decide), a184c, nZ_1 (by decide), a180c, nZ_1 (by decide), a173c, sI_eq]
  · rw [a405c, sP_1, a403c, sI_na (by decide), a401c, sP_1, a399c, sP_1, a397c, nZ_1 (by decide), a391c, sP_1, a389c, sI_na (by decide), a387c, sP_1, a385c, sP_1, a383c, nZ_1 (by decide), a377c, sP_1, a375c, sI_na (by decide), a373c, sP_1, a371c, sP_1, a369c, nZ_1 (by decide), a363c, sP_1, a361c, sI_na (by decide), a359c, sP_1, a357c, sP_1, a355c, nZ_1 (by decide), a349c, sP_1, a347c, sI_na (by decide), a345c, sP_1, a343c, sP_1, a341c, nZ_1 (by decide), a335c, sP_1, a333c, sI_na (by decide), a331c, sP_1, a329c, sP_1, a327c, nZ_1 (by decide), a321c, sP_1, a319c, sI_na (by decide), a317c, sP_1, a315c, sP_1, a313c, nZ_1 (by decide), a307c, sP_1, a305c, sI_na (by decide), a303c, sP_1, a301c, sP_1, a299c, nZ_1 (by decide), a293c, tc_na (by decide), a289c, sP_1, a287c, sI_na (by decide), a285c, sI_na (by decide), a283c, sI_na (by decide), a281c, sI_na (by decide), a279c, sI_na (by decide), a277c, sI_na (by decide), a275c, sI_na (by decide), a273c, sI_na (by decide), a271c, sI_na (by decide), a266c, nZ_1 (by decide), a259c, sI_ne (by decide), a257c, sI_ne (by decide), a255c, sI_ne (by decide), a253c, sI_ne (by decide), a251c, sI_eq]
  · rw [a405c, sP_1, a403c, sI_na (by decide), a401c, sP_1, a399c, sP_1, a397c, nZ_1 (by decide), a391c, sP_1, a389c, sI_na (by decide), a387c, sP_1, a385c, sP_1, a383c, nZ_1 (by decide), a377c, sP_1, a375c, sI_na (by decide), a373c, sP_1, a371c, sP_1, a369c, nZ_1 (by decide), a363c, sP_1, a361c, sI_na (by decide), a359c, sP_1, a357c, sP_1, a355c, nZ_1 (by decide), a349c, sP_1, a347c, sI_na (by decide), a345c, sP_1, a343c, sP_1, a341c, nZ_1 (by decide), a335c, sP_1, a333c, sI_na (by decide), a331c, sP_1, a329c, sP_1, a327c, nZ_1 (by decide), a321c, sP_1, a319c, sI_na (by decide), a317c, sP_1, a315c, sP_1, a313c, nZ_1 (by decide), a307c, sP_1, a305c, sI_na (by decide), a303c, sP_1, a301c, sP_1, a299c, nZ_1 (by decide), a293c, tc_na (by decide), a289c, sP_1, a287c, sI_na (by decide), a285c, sI_na (by decide), a283c, sI_na (by decide), a281c, sI_na (by decide), a279c, sI_na (by decide), a277c, sI_na (by decide), a275c, sI_na (by decide), a273c, sI_na (by decide), a271c, sI_na (by decide), a266c, nZ_1 (by decide), a259c, sI_ne (by decide), a257c, sI_ne (by decide), a255c, sI_ne (by decide), a253c, sI_eq]
  · rw [a405c, sP_1, a403c, sI_na (by decide), a401c, sP_1, a399c, sP_1, a397c, nZ_1 (by decide), a391c, sP_1, a389c, sI_na (by decide), a387c, sP_1, a385c, sP_1, a383c, nZ_1 (by decide), a377c, sP_1, a375c, sI_na (by decide), a373c, sP_1, a371c, sP_1, a369c, nZ_1 (by decide), a363c, sP_1, a361c, sI_na (by decide), a359c, sP_1, a357c, sP_1, a355c, nZ_1 (by decide), a349c, sP_1, a347c, sI_na (by decide), a345c, sP_1, a343c, sP_1, a341c, nZ_1 (by decide), a335c, sP_1, a333c, sI_na (by decide), a331c, sP_1, a329c, sP_1, a327c, nZ_1 (by decide), a321c, sP_1, a319c, sI_na (by decide), a317c, sP_1, a315c, sP_1, a313c, nZ_1 (by decide), a307c, sP_1, a305c, sI_na (by decide), a303c, sP_1, a301c, sP_1, a299c, nZ_1 (by decide), a293c, tc_na (by decide), a289c, sP_1, a287c, sI_na (by decide), a285c, sI_na (by decide), a283c, sI_na (by decide), a281c, sI_na (by decide), a279c, sI_na (by decide), a277c, sI_na (by decide), a275c, sI_na (by decide), a273c, sI_na (by decide), a271c, sI_na (by decide), a266c, nZ_1 (by decide), a259c, sI_ne (by decide), a257c, sI_ne (by decide), a255c, sI_eq]
  · rw [a405c, sP_1, a403c, sI_na (by decide), a401c, sP_1, a399c, sP_1, a397c, nZ_1 (by decide), a391c, sP_1, a389c, sI_na (by decide), a387c, sP_1, a385c, sP_1, a383c, nZ_1 (by decide), a377c, sP_1, a375c, sI_na (by decide), a373c, sP_1, a371c, sP_1, a369c, nZ_1 (by decide), a363c, sP_1, a361c, sI_na (by decide), a359c, sP_1, a357c, sP_1, a355c, nZ_1 (by decide), a349c, sP_1, a347c, sI_na (by decide), a345c, sP_1, a343c, sP_1, a341c, nZ_1 (by decide), a335c, sP_1, a333c, sI_na (by decide), a331c, sP_1, a329c, sP_1, a327c, nZ_1 (by decide), a321c, sP_1, a319c, sI_na (by decide), a317c, sP_1, a315c, sP_1, a313c, nZ_1 (by decide), a307c, sP_1, a305c, sI_na (by decide), a303c, sP_1, a301c, sP_1, a299c, nZ_1 (by decide), a293c, tc_na (by decide), a289c, sP_1, a287c, sI_na (by decide), a285c, sI_na (by decide), a283c, sI_na (by decide), a281c, sI_na (by decide), a279c, sI_na (by decide), a277c, sI_na (by decide), a275c, sI_na (by decide), a273c, sI_na (by decide), a271c, sI_na (by decide), a266c, nZ_1 (by decide), a259c, sI_ne (by decide), a257c, sI_eq]
  · rw [a405c, sP_1, a403c, sI_na (by decide), a401c, sP_1, a399c, sP_1, a397c, nZ_1 (by decide), a391c, sP_1, a389c, sI_na (by decide), a387c, sP_1, a385c, sP_1, a383c, nZ_1 (by decide), a377c, sP_1, a375c, sI_na (by decide), a373c, sP_1, a371c, sP_1, a369c, nZ_1 (by decide), a363c, sP_1, a361c, sI_na (by decide), a359c, sP_1, a357c, sP_1, a355c, nZ_1 (by decide), a349c, sP_1, a347c, sI_na (by decide), a345c, sP_1, a343c, sP_1, a341c, nZ_1 (by decide), a335c, sP_1, a333c, sI_na (by decide), a331c, sP_1, a329c, sP_1, a327c, nZ_1 (by decide), a321c, sP_1, a319c, sI_na (by decide), a317c, sP_1, a315c, sP_1, a313c, nZ_1 (by decide), a307c, sP_1, a305c, sI_na (by decide), a303c, sP_1, a301c, sP_1, a299c, nZ_1 (by decide), a293c, tc_na (by decide), a289c, sP_1, a287c, sI_na (by decide), a285c, sI_na (by decide), a283c, sI_na (by decide), a281c, sI_na (by decide), a279c, sI_na (by decide), a277c, sI_na (by decide), a275c, sI_na (by decide), a273c, sI_na (by decide), a271c, sI_na (by decide), a266c, nZ_1 (by decide), a259c, sI_eq]
  · rw [a405c, sP_1, a403c, sI_na (by decide), a401c, sP_1, a399c, sP_1, a397c, nZ_1 (by decide), a391c, sP_1, a389c, sI_na (by decide), a387c, sP_1, a385c, sP_1, a383c, nZ_1 (by decide), a377c, sP_1, a375c, sI_na (by decide), a373c, sP_1, a371c, sP_1, a369c, nZ_1 (by decide), a363c, sP_1, a361c, sI_na (by decide), a359c, sP_1, a357c, sP_1, a355c, nZ_1 (by decide), a349c, sP_1, a347c, sI_na (by decide), a345c, sP_1, a343c, sP_1, a341c, nZ_1 (by decide), a335c, sP_1, a333c, sI_na (by decide), a331c, sP_1, a329c, sP_1, a327c, nZ_1 (by decide), a321c, sP_1, a319c, sI_na (by decide), a317c, sP_1, a315c, sP_1, a313c, nZ_1 (by decide), a307c, sP_1, a305c, sI_na (by decide), a303c, sP_1, a301c, sP_1, a299c, nZ_1 (by decide), a293c, tc_na (by decide), a289c, sP_1, a287c, sI_na (by decide), a285c, sI_na (by decide), a283c, sI_na (by decide), a281c, sI_na (by decide), a279c, sI_na (by decide), a277c, sI_na (by decide), a275c, sI_na (by decide), a273c, sI_na (by decide), a271c, sI_na (by decide), a266c, nZ_1 (by decide), a259c, sI_na (by decide), a257c, sI_na (by decide), a255c, sI_na (by decide), a253c, sI_na (by decide), a251c, sI_na (by decide), a249c, sP_1, a247c, sP_1, a242c, sI_na (by decide), a240c, sI_na (by decide), a238c, sI_na (by decide), a236c, sI_na (by decide), a234c, nZ_1 (by decide), a227c, nZ_1 (by decide), a220c, nZ_1 (by decide), a213c, nZ_1 (by decide), a209c, nZ_1 (by decide), a199c, sI_ne (by decide), a197c, sI_ne (by decide), a195c, sI_ne (by decide), a193c, sI_eq]
  · rw [a405c, sP_1, a403c, sI_na (by decide), a401c, sP_1, a399c, sP_1, a397c, nZ_1 (by decide), a391c, sP_1, a389c, sI_na (by decide), a387c, sP_1, a385c, sP_1, a383c, nZ_1 (by decide), a377c, sP_1, a375c, sI_na (by decide), a373c, sP_1, a371c, sP_1, a369c, nZ_1 (by decide), a363c, sP_1, a361c, sI_na (by decide), a359c, sP_1, a357c, sP_1, a355c, nZ_1 (by decide), a349c, sP_1, a347c, sI_na (by decide), a345c, sP_1, a343c, sP_1, a341c, nZ_1 (by decide), a335c, sP_1, a333c, sI_na (by decide), a331c, sP_1, a329c, sP_1, a327c, nZ_1 (by decide), a321c, sP_1, a319c, sI_na (by decide), a317c, sP_1, a315c, sP_1, a313c, nZ_1 (by decide), a307c, sP_1, a305c, sI_na (by decide), a303c, sP_1, a301c, sP_1, a299c, nZ_1 (by decide), a293c, tc_na (by decide), a289c, sP_1, a287c, sI_na (by decide), a285c, sI_na (by decide), a283c, sI_na (by decide), a281c, sI_na (by decide), a279c, sI_na (by decide), a277c, sI_na (by decide), a275c, sI_na (by decide), a273c, sI_na (by decide), a271c, sI_na (by decide), a266c, nZ_1 (by decide), a259c, sI_na (by decide), a257c, sI_na (by decide), a255c, sI_na (by decide), a253c, sI_na (by decide), a251c, sI_na (by decide), a249c, sP_1, a247c, sP_1, a242c, sI_na (by decide), a240c, sI_na (by decide), a238c, sI_na (by decide), a236c, sI_na (by decide), a234c, nZ_1 (by decide), a227c, nZ_1 (by decide), a220c, nZ_1 (by decide), a213c, nZ_1 (by decide), a209c, nZ_1 (by decide), a199c, sI_ne (by decide), a197c, sI_ne (by decide), a195c, sI_eq]
  · rw [a405c, sP_1, a403c, sI_na (by decide), a401c, sP_1, a399c, sP_1, a397c, nZ_1 (by decide), a391c, sP_1, a389c, sI_na (by decide), a387c, sP_1, a385c, sP_1, a383c, nZ_1 (by decide), a377c, sP_1, a375c, sI_na (by decide), a373c, sP_1, a371c, sP_1, a369c, nZ_1 (by decide), a363c, sP_1, a361c, sI_na (by decide), a359c, sP_1, a357c, sP_1, a355c, nZ_1 (by decide), a349c, sP_1, a347c, sI_na (by decide), a345c, sP_1, a343c, sP_1, a341c, nZ_1 (by decide), a335c, sP_1, a333c, sI_na (by decide), a331c, sP_1, a329c, sP_1, a327c, nZ_1 (by decide), a321c, sP_1, a319c, sI_na (by decide), a317c, sP_1, a315c, sP_1, a313c, nZ_1 (by decide), a307c, sP_1, a305c, sI_na (by decide), a303c, sP_1, a301c, sP_1, a299c, nZ_1 (by decide), a293c, tc_na (by decide), a289c, sP_1, a287c, sI_na (by decide), a285c, sI_na (by decide), a283c, sI_na (by decide), a281c, sI_na (by decide), a279c, sI_na (by decide), a277c, sI_na (by decide), a275c, sI_na (by decide), a273c, sI_na (by decide), a271c, sI_na (by decide), a266c, nZ_1 (by decide), a259c, sI_na (by decide), a257c, sI_na (by decide), a255c, sI_na (by decide), a253c, sI_na (by decide), a251c, sI_na (by decide), a249c, sP_1, a247c, sP_1, a242c, sI_na (by decide), a240c, sI_na (by decide), a238c, sI_na (by decide), a236c, sI_na (by decide), a234c, nZ_1 (by decide), a227c, nZ_1 (by decide), a220c, nZ_1 (by decide), a213c, nZ_1 (by decide), a209c, nZ_1 (by decide), a199c, sI_ne (by decide), a197c, sI_eq]
  · rw [a405c, sP_1, a403c, sI_na (by decide), a401c, sP_1, a399c, sP_1, a397c, nZ_1 (by decide), a391c, sP_1, a389c, sI_na (by decide), a387c, sP_1, a385c, sP_1, a383c, nZ_1 (by decide), a377c, sP_1, a375c, sI_na (by decide), a373c, sP_1, a371c, sP_1, a369c, nZ_1 (by decide), a363c, sP_1, a361c, sI_na (by decide), a359c, sP_1, a357c, sP_1, a355c, nZ_1 (by decide), a349c, sP_1, a347c, sI_na (by decide), a345c, sP_1, a343c, sP_1, a341c, nZ_1 (by decide), a335c, sP_1, a333c, sI_na (by decide), a331c, sP_1, a329c, sP_1, a327c, nZ_1 (by decide), a321c, sP_1, a319c, sI_na (by decide), a317c, sP_1, a315c, sP_1, a313c, nZ_1 (by decide), a307c, sP_1, a305c, sI_na (by decide), a303c, sP_1, a301c, sP_1, a299c, nZ_1 (by decide), a293c, tc_na (by decide), a289c, sP_1, a287c, sI_na (by decide), a285c, sI_na (by decide), a283c, sI_na (by decide), a281c, sI_na (by decide), a279c, sI_na (by decide), a277c, sI_na (by decide), a275c, sI_na (by decide), a273c, sI_na (by decide), a271c, sI_na (by decide), a266c, nZ_1 (by decide), a259c, sI_na (by decide), a257c, sI_na (by decide), a255c, sI_na (by decide), a253c, sI_na (by decide), a251c, sI_na (by decide), a249c, sP_1, a247c, sP_1, a242c, sI_na (by decide), a240c, sI_na (by decide), a238c, sI_na (by decide), a236c, sI_na (by decide), a234c, nZ_1 (by decide), a227c, nZ_1 (by decide), a220c, nZ_1 (by decide), a213c, nZ_1 (by decide), a209c, nZ_1 (by decide), a199c, sI_eq]
  · rw [a405c, sP_1, a403c, sI_na (by decide), a401c, sP_1, a399c, sP_1, a397c, nZ_1 (by decide), a391c, sP_1, a389c, sI_na (by decide), a387c, sP_1, a385c, sP_1, a383c, nZ_1 (by decide), a377c, sP_1, a375c, sI_na (by decide), a373c, sP_1, a371c, sP_1, a369c, nZ_1 (by decide), a363c, sP_1, a361c, sI_na (by decide), a359c, sP_1, a357c, sP_1, a355c, nZ_1 (by decide), a349c, sP_1, a347c, sI_na (by decide), a345c, sP_1, a343c, sP_1, a341c, nZ_1 (by decide), a335c, sP_1, a333c, sI_na (by decide), a331c, sP_1, a329c, sP_1, a327c, nZ_1 (by decide), a321c, sP_1, a319c, sI_na (by decide), a317c, sP_1, a315c, sP_1, a313c, nZ_1 (by decide), a307c, sP_1, a305c, sI_na (by decide), a303c, sP_1, a301c, sP_1, a299c, nZ_1 (by decide), a293c, tc_na (by decide), a289c, sP_1, a287c, sI_na (by decide), a285c, sI_na (by decide), a283c, sI_na (by decide), a281c, sI_na (by decide), a279c, sI_na (by decide), a277c, sI_na (by decide), a275c, sI_na (by decide), a273c, sI_na (by decide), a271c, sI_na (by decide), a266c, nZ_1 (by decide), a259c, sI_na (by decide), a257c, sI_na (by decide), a255c, sI_na (by decide), a253c, sI_na (by decide), a251c, sI_na (by decide), a249c, sP_1, a247c, sP_1, a242c, sI_ne (by decide), a240c, sI_ne (by decide), a238c, sI_ne (by decide), a236c, sI_eq]
  · rw [a405c, sP_1, a403c, sI_na (by decide), a401c, sP_1, a399c, sP_1, a397c, nZ_1 (by decide), a391c, sP_1, a389c, sI_na (by decide), a387c, sP_1, a385c, sP_1, a383c, nZ_1 (by decide), a377c, sP_1, a375c, sI_na (by decide), a373c, sP_1, a371c, sP_1, a369c, nZ_1 (by decide), a363c, sP_1, a361c, sI_na (by decide), a359c, sP_1, a357c, sP_1, a355c, nZ_1 (by decide), a349c, sP_1, a347c, sI_na (by decide), a345c, sP_1, a343c, sP_1, a341c, nZ_1 (by decide), a335c, sP_1, a333c, sI_na (by decide), a331c, sP_1, a329c, sP_1, a327c, nZ_1 (by decide), a321c, sP_1, a319c, sI_na (by decide), a317c, sP_1, a315c, sP_1, a313c, nZ_1 (by decide), a307c, sP_1, a305c, sI_na (by decide), a303c, sP_1, a301c, sP_1, a299c, nZ_1 (by decide), a293c, tc_na (by decide), a289c, sP_1, a287c, sI_na (by decide), a285c, sI_na (by decide), a283c, sI_na (by decide), a281c, sI_na (by decide), a279c, sI_na (by decide), a277c, sI_na (by decide), a275c, sI_na (by decide), a273c, sI_na (by decide), a271c, sI_na (by decide), a266c, nZ_1 (by decide), a259c, sI_na (by decide), a257c, sI_na (by decide), a255c, sI_na (by decide), a253c, sI_na (by decide), a251c, sI_na (by decide), a249c, sP_1, a247c, sP_1, a242c, sI_ne (by decide), a240c, sI_ne (by decide), a238c, sI_eq]
  · rw [a405c, sP_1, a403c, sI_na (by decide), a401c, sP_1, a399c, sP_1, a397c, nZ_1 (by decide), a391c, sP_1, a389c, sI_na (by decide), a387c, sP_1, a385c, sP_1, a383c, nZ_1 (by decide), a377c, sP_1, a375c, sI_na (by decide), a373c, sP_1, a371c, sP_1, a369c, nZ_1 (by decide), a363c, sP_1, a361c, sI_na (by decide), a359c, sP_1, a357c, sP_1, a355c, nZ_1 (by decide), a349c, sP_1, a347c, sI_na (by decide), a345c, sP_1, a343c, sP_1, a341c, nZ_1 (by decide), a335c, sP_1, a333c, sI_na (by decide), a331c, sP_1, a329c, sP_1, a327c, nZ_1 (by decide), a321c, sP_1, a319c, sI_na (by decide), a317c, sP_1, a315c, sP_1, a313c, nZ_1 (by decide), a307c, sP_1, a305c, sI_na (by decide), a303c, sP_1, a301c, sP_1, a299c, nZ_1 (by decide), a293c, tc_na (by decide), a289c, sP_1, a287c, sI_na (by decide), a285c, sI_na (by decide), a283c, sI_na (by decide), a281c, sI_na (by decide), a279c, sI_na (by decide), a277c, sI_na (by decide), a275c, sI_na (by decide), a273c, sI_na (by decide), a271c, sI_na (by decide), a266c, nZ_1 (by decide), a259c, sI_na (by decide), a257c, sI_na (by decide), a255c, sI_na (by decide), a253c, sI_na (by decide), a251c, sI_na (by decide), a249c, sP_1, a247c, sP_1, a242c, sI_ne (by decide), a240c, sI_eq]
  · rw [a405c, sP_1, a403c, sI_na (by decide), a401c, sP_1, a399c, sP_1, a397c, nZ_1 (by decide), a391c, sP_1, a389c, sI_na (by decide), a387c, sP_1, a385c, sP_1, a383c, nZ_1 (by decide), a377c, sP_1, a375c, sI_na (by decide), a373c, sP_1, a371c, sP_1, a369c, nZ_1 (by decide), a363c, sP_1, a361c, sI_na (by decide), a359c, sP_1, a357c, sP_1, a355c, nZ_1 (by decide), a349c, sP_1, a347c, sI_na (by decide), a345c, sP_1, a343c, sP_1, a341c, nZ_1 (by decide), a335c, sP_1, a333c, sI_na (by decide), a331c, sP_1, a329c, sP_1, a327c, nZ_1 (by decide), a321c, sP_1, a319c, sI_na (by decide), a317c, sP_1, a315c, sP_1, a313c, nZ_1 (by decide), a307c, sP_1, a305c, sI_na (by decide), a303c, sP_1, a301c, sP_1, a299c, nZ_1 (by decide), a293c, tc_na (by decide), a289c, sP_1, a287c, sI_na (by decide), a285c, sI_na (by decide), a283c, sI_na (by decide), a281c, sI_na (by decide), a279c, sI_na (by decide), a277c, sI_na (by decide), a275c, sI_na (by decide), a273c, sI_na (by decide), a271c, sI_na (by decide), a266c, nZ_1 (by decide), a259c, sI_na (by decide), a257c, sI_na (by decide), a255c, sI_na (by decide), a253c, sI_na (by decide), a251c, sI_na (by decide), a249c, sP_1, a247c, sP_1, a242c, sI_eq]
  · rw [a405c, sP_na (by decide), a403c, sI_2, a401c, sP_na (by decide), a399c, sP_na (by decide), a397c, nZ_2 (by decide), a391c, sP_na (by decide), a389c, sI_2, a387c, sP_na (by decide), a385c, sP_na (by decide), a383c, nZ_2 (by decide), a377c, sP_na (by decide), a375c, sI_2, a373c, sP_na (by decide), a371c, sP_na (by decide), a369c, nZ_2 (by decide), a363c, sP_na (by decide), a361c, sI_2, a359c, sP_na (by decide), a357c, sP_na (by decide), a355c, nZ_2 (by decide), a349c, sP_na (by decide), a347c, sI_2, a345c, sP_na (by decide), a343c, sP_na (by decide), a341c, nZ_2 (by decide), a335c, sP_na (by decide), a333c, sI_2, a331c, sP_na (by decide), a329c, sP_na (by decide), a327c, nZ_2 (by decide), a321c, sP_na (by decide), a319c, sI_2, a317c, sP_na (by decide), a315c, sP_na (by decide), a313c, nZ_2 (by decide), a307c, sP_na (by decide), a305c, sI_2, a303c, sP_na (by decide), a301c, sP_na (by decide), a299c, nZ_2 (by decide), a293c, tc_2, a289c, sP_na (by decide), a287c, sI_2, a285c, sI_2, a283c, sI_2, a281c, sI_2, a279c, sI_2, a277c, sI_2, a275c, sI_2, a273c, sI_2, a271c, sI_2, a266c, nZ_2 (by decide), a259c, sI_2, a257c, sI_2, a255c, sI_2, a253c, sI_2, a251c, sI_2, a249c, sP_ne (by decide), a247c, sP_eq]
  · rw [a405c, sP_na (by decide), a403c, sI_2, a401c, sP_na (by decide), a399c, sP_na (by decide), a397c, nZ_2 (by decide), a391c, sP_na (by decide), a389c, sI_2, a387c, sP_na (by decide), a385c, sP_na (by decide), a383c, nZ_2 (by decide), a377c, sP_na (by decide), a375c, sI_2, a373c, sP_na (by decide), a371c, sP_na (by decide), a369c, nZ_2 (by decide), a363c, sP_na (by decide), a361c, sI_2, a359c, sP_na (by decide), a357c, sP_na (by decide), a355c, nZ_2 (by decide), a349c, sP_na (by decide), a347c, sI_2, a345c, sP_na (by decide), a343c, sP_na (by decide), a341c, nZ_2 (by decide), a335c, sP_na (by decide), a333c, sI_2, a331c, sP_na (by decide), a329c, sP_na (by decide), a327c, nZ_2 (by decide), a321c, sP_na (by decide), a319c, sI_2, a317c, sP_na (by decide), a315c, sP_na (by decide), a313c, nZ_2 (by decide), a307c, sP_na (by decide), a305c, sI_2, a303c, sP_na (by decide), a301c, sP_na (by decide), a299c, nZ_2 (by decide), a293c, tc_2, a289c, sP_na (by decide), a287c, sI_2, a285c, sI_2, a283c, sI_2, a281c, sI_2, a279c, sI_2, a277c, sI_2, a275c, sI_2, a273c, sI_2, a271c, sI_2, a266c, nZ_2 (by decide), a259c, sI_2, a257c, sI_2, a255c, sI_2, a253c, sI_2, a251c, sI_2, a249c, sP_eq]
  · rw [a405c, sP_ne (by decide), a403c, sI_2, a401c, sP_na (by decide), a399c, sP_na (by decide), a397c, nZ_2 (by decide), a391c, sP_ne (by decide), a389c, sI_2, a387c, sP_na (by decide), a385c, sP_na (by decide), a383c, nZ_2 (by decide), a377c, sP_ne (by decide), a375c, sI_2, a373c, sP_na (by decide), a371c, sP_na (by decide), a369c, nZ_2 (by decide), a363c, sP_ne (by decide), a361c, sI_2, a359c, sP_na (by decide), a357c, sP_na (by decide), a355c, nZ_2 (by decide), a349c, sP_ne (by decide), a347c, sI_2, a345c, sP_na (by decide), a343c, sP_na (by decide), a341c, nZ_2 (by decide), a335c, sP_ne (by decide), a333c, sI_2, a331c, sP_na (by decide), a329c, sP_na (by decide), a327c, nZ_2 (by decide), a321c, sP_ne (by decide), a319c, sI_2, a317c, sP_na (by decide), a315c, sP_na (by decide), a313c, nZ_2 (by decide), a307c, sP_eq]
  · rw [a405c, sP_ne (by decide), a403c, sI_2, a401c, sP_na (by decide), a399c, sP_na (by decide), a397c, nZ_2 (by decide), a391c, sP_ne (by decide), a389c, sI_2, a387c, sP_na (by decide), a385c, sP_na (by decide), a383c, nZ_2 (by decide), a377c, sP_ne (by decide), a375c, sI_2, a373c, sP_na (by decide), a371c, sP_na (by decide), a369c, nZ_2 (by decide), a363c, sP_ne (by decide), a361c, sI_2, a359c, sP_na (by decide), a357c, sP_na (by decide), a355c, nZ_2 (by decide), a349c, sP_ne (by decide), a347c, sI_2, a345c, sP_na (by decide), a343c, sP_na (by decide), a341c, nZ_2 (by decide), a335c, sP_ne (by decide), a333c, sI_2, a331c, sP_na (by decide), a329c, sP_na (by decide), a327c, nZ_2 (by decide), a321c, sP_eq]
  · rw [a405c, sP_ne (by decide), a403c, sI_2, a401c, sP_na (by decide), a399c, sP_na (by decide), a397c, nZ_2 (by decide), a391c, sP_ne (by decide), a389c, sI_2, a387c, sP_na (by decide), a385c, sP_na (by decide), a383c, nZ_2 (by decide), a377c, sP_ne (by decide), a375c, sI_2, a373c, sP_na (by decide), a371c, sP_na (by decide), a369c, nZ_2 (by decide), a363c, sP_ne (by decide), a361c, sI_2, a359c, sP_na (by decide), a357c, sP_na (by decide), a355c, nZ_2 (by decide), a349c, sP_ne (by decide), a347c, sI_2, a345c, sP_na (by decide), a343c, sP_na (by decide), a341c, nZ_2 (by decide), a335c, sP_eq]
  · rw [a405c, sP_ne (by decide), a403c, sI_2, a401c, sP_na (by decide), a399c, sP_na (by decide), a397c, nZ_2 (by decide), a391c, sP_ne (by decide), a389c, sI_2, a387c, sP_na (by decide), a385c, sP_na (by decide), a383c, nZ_2 (by decide), a377c, sP_ne (by decide), a375c, sI_2, a373c, sP_na (by decide), a371c, sP_na (by decide), a369c, nZ_2 (by decide), a363c, sP_ne (by decide), a361c, sI_2, a359c, sP_na (by decide), a357c, sP_na (by decide), a355c, nZ_2 (by decide), a349c, sP_eq]
  · rw [a405c, sP_ne (by decide), a403c, sI_2, a401c, sP_na (by decide), a399c, sP_na (by decide), a397c, nZ_2 (by decide), a391c, sP_ne (by decide), a389c, sI_2, a387c, sP_na (by decide), a385c, sP_na (by decide), a383c, nZ_2 (by decide), a377c, sP_ne (by decide), a375c, sI_2, a373c, sP_na (by decide), a371c, sP_na (by decide), a369c, nZ_2 (by decide), a363c, sP_eq]
  · rw [a405c, sP_ne (by decide), a403c, sI_2, a401c, sP_na (by decide), a399c, sP_na (by decide), a397c, nZ_2 (by decide), a391c, sP_ne (by decide), a389c, sI_2, a387c, sP_na (by decide), a385c, sP_na (by decide), a383c, nZ_2 (by decide), a377c, sP_eq]
  · rw [a405c, sP_ne (by decide), a403c, sI_2, a401c, sP_na (by decide), a399c, sP_na (by decide), a397c, nZ_2 (by decide), a391c, sP_eq]
  · rw [a405c, sP_eq]
  · rw [a405c, sP_na (by decide), a403c, sI_2, a401c, sP_na (by decide), a399c, sP_na (by decide), a397c, nZ_2 (by decide), a391c, sP_na (by decide), a389c, sI_2, a387c, sP_na (by decide), a385c, sP_na (by decide), a383c, nZ_2 (by decide), a377c, sP_na (by decide), a375c, sI_2, a373c, sP_na (by decide), a371c, sP_na (by decide), a369c, nZ_2 (by decide), a363c, sP_na (by decide), a361c, sI_2, a359c, sP_na (by decide), a357c, sP_na (by decide), a355c, nZ_2 (by decide), a349c, sP_na (by decide), a347c, sI_2, a345c, sP_na (by decide), a343c, sP_na (by decide), a341c, nZ_2 (by decide), a335c, sP_na (by decide), a333c, sI_2, a331c, sP_na (by decide), a329c, sP_na (by decide), a327c, nZ_2 (by decide), a321c, sP_na (by decide), a319c, sI_2, a317c, sP_na (by decide), a315c, sP_na (by decide), a313c, nZ_2 (by decide), a307c, sP_na (by decide), a305c, sI_2, a303c, sP_ne (by decide), a301c, sP_eq]
  · rw [a405c, sP_na (by decide), a403c, sI_2, a401c, sP_na (by decide), a399c, sP_na (by decide), a397c, nZ_2 (by decide), a391c, sP_na (by decide), a389c, sI_2, a387c, sP_na (by decide), a385c, sP_na (by decide), a383c, nZ_2 (by decide), a377c, sP_na (by decide), a375c, sI_2, a373c, sP_na (by decide), a371c, sP_na (by decide), a369c, nZ_2 (by decide), a363c, sP_na (by decide), a361c, sI_2, a359c, sP_na (by decide), a357c, sP_na (by decide), a355c, nZ_2 (by decide), a349c, sP_na (by decide), a347c, sI_2, a345c, sP_na (by decide), a343c, sP_na (by decide), a341c, nZ_2 (by decide), a335c, sP_na (by decide), a333c, sI_2, a331c, sP_na (by decide), a329c, sP_na (by decide), a327c, nZ_2 (by decide), a321c, sP_na (by decide), a319c, sI_2, a317c, sP_na (by decide), a315c, sP_na (by decide), a313c, nZ_2 (by decide), a307c, sP_na (by decide), a305c, sI_2, a303c, sP_eq]
  · rw [a405c, sP_na (by decide), a403c, sI_2, a401c, sP_na (by decide), a399c, sP_na (by decide), a397c, nZ_2 (by decide), a391c, sP_na (by decide), a389c, sI_2, a387c, sP_na (by decide), a385c, sP_na (by decide), a383c, nZ_2 (by decide), a377c, sP_na (by decide), a375c, sI_2, a373c, sP_na (by decide), a371c, sP_na (by decide), a369c, nZ_2 (by decide), a363c, sP_na (by decide), a361c, sI_2, a359c, sP_na (by decide), a357c, sP_na (by decide), a355c, nZ_2 (by decide), a349c, sP_na (by decide), a347c, sI_2, a345c, sP_na (by decide), a343c, sP_na (by decide), a341c, nZ_2 (by decide), a335c, sP_na (by decide), a333c, sI_2, a331c, sP_na (by decide), a329c, sP_na (by decide), a327c, nZ_2 (by decide), a321c, sP_na (by decide), a319c, sI_2, a317c, sP_ne (by decide), a315c, sP_eq]
  · rw [a405c, sP_na (by decide), a403c, sI_2, a401c, sP_na (by decide), a399c, sP_na (by decide), a397c, nZ_2 (by decide), a391c, sP_na (by decide), a389c, sI_2, a387c, sP_na (by decide), a385c, sP_na (by decide), a383c, nZ_2 (by decide), a377c, sP_na (by decide), a375c, sI_2, a373c, sP_na (by decide), a371c, sP_na (by decide), a369c, nZ_2 (by decide), a363c, sP_na (by decide), a361c, sI_2, a359c, sP_na (by decide), a357c, sP_na (by decide), a355c, nZ_2 (by decide), a349c, sP_na (by decide), a347c, sI_2, a345c, sP_na (by decide), a343c, sP_na (by decide), a341c, nZ_2 (by decide), a335c, sP_na (by decide), a333c, sI_2, a331c, sP_na (by decide), a329c, sP_na (by decide), a327c, nZ_2 (by decide), a321c, sP_na (by decide), a319c, sI_2, a317c, sP_eq]
  · rw [a405c, sP_na (by decide), a403c, sI_2, a401c, sP_na (by decide), a399c, sP_na (by decide), a397c, nZ_2 (by decide), a391c, sP_na (by decide), a389c, sI_2, a387c, sP_na (by decide), a385c, sP_na (by decide), a383c, nZ_2 (by decide), a377c, sP_na (by decide), a375c, sI_2, a373c, sP_na (by decide), a371c, sP_na (by decide), a369c, nZ_2 (by decide), a363c, sP_na (by decide), a361c, sI_2, a359c, sP_na (by decide), a357c, sP_na (by decide), a355c, nZ_2 (by decide), a349c, sP_na (by decide), a347c, sI_2, a345c, sP_na (by decide), a343c, sP_na (by decide), a341c, nZ_2 (by decide), a335c, sP_na (by decide), a333c, sI_2, a331c, sP_ne (by decide), a329c, sP_eq]
  · rw [a405c, sP_na (by decide), a403c, sI_2, a401c, sP_na (by decide), a399c, sP_na (by decide), a397c, nZ_2 (by decide), a391c, sP_na (by decide), a389c, sI_2, a387c, sP_na (by decide), a385c, sP_na (by decide), a383c, nZ_2 (by decide), a377c, sP_na (by decide), a375c, sI_2, a373c, sP_na (by decide), a371c, sP_na (by decide), a369c, nZ_2 (by decide), a363c, sP_na (by decide), a361c, sI_2, a359c, sP_na (by decide), a357c, sP_na (by decide), a355c, nZ_2 (by decide), a349c, sP_na (by decide), a347c, sI_2, a345c, sP_na (by decide), a343c, sP_na (by decide), a341c, nZ_2 (by decide), a335c, sP_na (by decide), a333c, sI_2, a331c, sP_eq]
  · rw [a405c, sP_na (by decide), a403c, sI_2, a401c, sP_na (by decide), a399c, sP_na (by decide), a397c, nZ_2 (by decide), a391c, sP_na (by decide), a389c, sI_2, a387c, sP_na (by decide), a385c, sP_na (by decide), a383c, nZ_2 (by decide), a377c, sP_na (by decide), a375c, sI_2, a373c, sP_na (by decide), a371c, sP_na (by decide), a369c, nZ_2 (by decide), a363c, sP_na (by decide), a361c, sI_2, a359c, sP_na (by decide), a357c, sP_na (by decide), a355c, nZ_2 (by decide), a349c, sP_na (by decide), a347c, sI_2, a345c, sP_ne (by decide), a343c, sP_eq]
  · rw [a405c, sP_na (by decide), a403c, sI_2, a401c, sP_na (by decide), a399c, sP_na (by decide), a397c, nZ_2 (by decide), a391c, sP_na (by decide), a389c, sI_2, a387c, sP_na (by decide), a385c, sP_na (by decide), a383c, nZ_2 (by decide), a377c, sP_na (by decide), a375c, sI_2, a373c, sP_na (by decide), a371c, sP_na (by decide), a369c, nZ_2 (by decide), a363c, sP_na (by decide), a361c, sI_2, a359c, sP_na (by decide), a357c, sP_na (by decide), a355c, nZ_2 (by decide), a349c, sP_na (by decide), a347c, sI_2, a345c, sP_eq]
  · rw [a405c, sP_na (by decide), a403c, sI_2, a401c, sP_na (by decide), a399c, sP_na (by decide), a397c, nZ_2 (by decide), a391c, sP_na (by decide), a389c, sI_2, a387c, sP_na (by decide), a385c, sP_na (by decide), a383c, nZ_2 (by decide), a377c, sP_na (by decide), a375c, sI_2, a373c, sP_na (by decide), a371c, sP_na (by decide), a369c, nZ_2 (by decide), a363c, sP_na (by decide), a361c, sI_2, a359c, sP_ne (by decide), a357c, sP_eq]
  · rw [a405c, sP_na (by decide), a403c, sI_2, a401c, sP_na (by decide), a399c, sP_na (by decide), a397c, nZ_2 (by decide), a391c, sP_na (by decide), a389c, sI_2, a387c, sP_na (by decide), a385c, sP_na (by decide), a383c, nZ_2 (by decide), a377c, sP_na (by decide), a375c, sI_2, a373c, sP_na (by decide), a371c, sP_na (by decide), a369c, nZ_2 (by decide), a363c, sP_na (by decide), a361c, sI_2, a359c, sP_eq]
  · rw [a405c, sP_na (by decide), a403c, sI_2, a401c, sP_na (by decide), a399c, sP_na (by decide), a397c, nZ_2 (by decide), a391c, sP_na (by decide), a389c, sI_2, a387c, sP_na (by decide), a385c, sP_na (by decide), a383c, nZ_2 (by decide), a377c, sP_na (by decide), a375c, sI_2, a373c, sP_ne (by decide), a371c, sP_eq]
  · rw [a405c, sP_na (by decide), a403c, sI_2, a401c, sP_na (by decide), a399c, sP_na (by decide), a397c, nZ_2 (by decide), a391c, sP_na (by decide), a389c, sI_2, a387c, sP_na (by decide), a385c, sP_na (by decide), a383c, nZ_2 (by decide), a377c, sP_na (by decide), a375c, sI_2, a373c, sP_eq]
  · rw [a405c, sP_na (by decide), a403c, sI_2, a401c, sP_na (by decide), a399c, sP_na (by decide), a397c, nZ_2 (by decide), a391c, sP_na (by decide), a389c, sI_2, a387c, sP_ne (by decide), a385c, sP_eq]
  · rw [a405c, sP_na (by decide), a403c, sI_2, a401c, sP_na (by decide), a399c, sP_na (by decide), a397c, nZ_2 (by decide), a391c, sP_na (by decide), a389c, sI_2, a387c, sP_eq]
  · rw [a405c, sP_na (by decide), a403c, sI_2, a401c, sP_ne (by decide), a399c, sP_eq]
  · rw [a405c, sP_na (by decide), a403c, sI_2, a401c, sP_eq]
  · intro a; rw [a405c, sP_1, a403c, sI_na (by decide), a401c, sP_1, a399c, sP_1, a397c, nZ_1 (by decide), a391c, sP_1, a389c, sI_na (by decide), a387c, sP_1, a385c, sP_1, a383c, nZ_1 (by decide), a377c, sP_1, a375c, sI_na (by decide), a373c, sP_1, a371c, sP_1, a369c, nZ_1 (by decide), a363c, sP_1, a361c, sI_na (by decide), a359c, sP_1, a357c, sP_1, a355c, nZ_1 (by decide), a349c, sP_1, a347c, sI_na (by decide), a345c, sP_1, a343c, sP_1, a341c, nZ_1 (by decide), a335c, sP_1, a333c, sI_na (by decide), a331c, sP_1, a329c, sP_1, a327c, nZ_1 (by decide), a321c, sP_1, a319c, sI_na (by decide), a317c, sP_1, a315c, sP_1, a313c, nZ_1 (by decide), a307c, sP_1, a305c, sI_na (by decide), a303c, sP_1, a301c, sP_1, a299c, nZ_1 (by decide), a293c, tc_na (by decide), a289c, sP_1, a287c, sI_na (by decide), a285c, sI_na (by decide), a283c, sI_na (by decide), a281c, sI_na (by decide), a279c, sI_na (by decide), a277c, sI_na (by decide), a275c, sI_na (by decide), a273c, sI_na (by decide), a271c, sI_na (by decide), a266c, nZ_1 (by decide), a259c, sI_na (by decide), a257c, sI_na (by decide), a255c, sI_na (by decide), a253c, sI_na (by decide), a251c, sI_na (by decide), a249c, sP_1, a247c, sP_1, a242c, sI_na (by decide), a240c, sI_na (by decide), a238c, sI_na (by decide), a236c, sI_na (by decide), a234c, nZ_1 (by decide), a227c, nZ_1 (by decide), a220c, nZ_1 (by decide), a213c, nZ_1 (by decide), a209c, nZ_1 (by decide), a199c, sI_na (by decide), a197c, sI_na (by decide), a195c, sI_na (by decide), a193c, sI_na (by decide), a191c, nZ_1 (by decide), a184c, nZ_e]
  · intro a; rw [a405c, sP_1, a403c, sI_na (by decide), a401c, sP_1, a399c, sP_1, a397c, nZ_1 (by decide), a391c, sP_1, a389c, sI_na (by decide), a387c, sP_1, a385c, sP_1, a383c, nZ_1 (by decide), a377c, sP_1, a375c, sI_na (by decide), a373c, sP_1, a371c, sP_1, a369c, nZ_1 (by decide), a363c, sP_1, a361c, sI_na (by decide), a359c, sP_1, a357c, sP_1, a355c, nZ_1 (by decide), a349c, sP_1, a347c, sI_na (by decide), a345c, sP_1, a343c, sP_1, a341c, nZ_1 (by decide), a335c, sP_1, a333c, sI_na (by decide), a331c, sP_1, a329c, sP_1, a327c, nZ_1 (by decide), a321c, sP_1, a319c, sI_na (by decide), a317c, sP_1, a315c, sP_1, a313c, nZ_1 (by decide), a307c, sP_1, a305c, sI_na (by decide), a303c, sP_1, a301c, sP_1, a299c, nZ_1 (by decide), a293c, tc_na (by decide), a289c, sP_1, a287c, sI_na (by decide), a285c, sI_na (by decide), a283c, sI_na (by decide), a281c, sI_na (by decide), a279c, sI_na (by decide), a277c, sI_na (by decide), a275c, sI_na (by decide), a273c, sI_na (by decide), a271c, sI_na (by decide), a266c, nZ_1 (by decide), a259c, sI_na (by decide), a257c, sI_na (by decide), a255c, sI_na (by decide), a253c, sI_na (by decide), a251c, sI_na (by decide), a249c, sP_1, a247c, sP_1, a242c, sI_na (by decide), a240c, sI_na (by decide), a238c, sI_na (by decide), a236c, sI_na (by decide), a234c, nZ_1 (by decide), a227c, nZ_e]
  · intro r hr; rw [a405c, sP_1, a403c, sI_na (by decide), a401c, sP_1, a399c, sP_1, a397c, nZ_1 (by decide), a391c, sP_1, a389c, sI_na (by decide), a387c, sP_1, a385c, sP_1, a383c, nZ_1 (by decide), a377c, sP_1, a375c, sI_na (by decide), a373c, sP_1, a371c, sP_1, a369c, nZ_1 (by decide), a363c, sP_1, a361c, sI_na (by decide), a359c, sP_1, a357c, sP_1, a355c, nZ_1 (by decide), a349c, sP_1, a347c, sI_na (by decide), a345c, sP_1, a343c, sP_1, a341c, nZ_1 (by decide), a335c, sP_1, a333c, sI_na (by decide), a331c, sP_1, a329c, sP_1, a327c, nZ_1 (by decide), a321c, sP_1, a319c, sI_na (by decide), a317c, sP_1, a315c, sP_1, a313c, nZ_1 (by decide), a307c, sP_1, a305c, sI_na (by decide), a303c, sP_1, a301c, sP_1, a299c, nZ_1 (by decide), a293c, tc_e hr]
  · rw [past 2 (by decide) (by decide), f62c]
  · rw [cF_c (S := S61) (fun a a1 a2 => past a a1 a2)]; exact f62d
  · rw [f4_c (S := S61) (fun a a1 a2 => past a a1 a2)]; exact f62e

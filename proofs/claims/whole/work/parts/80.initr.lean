/-! ===== PURE PART: the reference's constructor (written by wip/gen/initr.py) ===== -/
theorem aT_na {T : Nat → Nat} {n t b : Nat} (h : b ≠ n) : aT T n t b = T b := if_neg h
theorem aN_na {F : Nat → Nat → Option Nat} {n b : Nat} (h : b ≠ n) : aN F n b = F b := funext fun _ => if_neg h
theorem aF_na {F : Nat → Nat → Option Nat} {o j w b : Nat} (h : b ≠ o) : aF F o j w b = F b := funext fun _ => if_neg (fun q => h q.1)
/-- what RowBankModel() leaves, beside what was there -/
def inB (V : Vt) (S : Me) (V1 : Vt) (S1 : Me) : Prop := (V1.1 = 72 ∧ exV V V1 ∧ fX12 V1 42) ∧ (∀ b, b < 42 → S1.1 b = S.1 b ∧ S1.2 b = S.2 b) ∧ (S1.1 42 2 = 0 ∧ S1.1 42 3 = 4 ∧ S1.1 42 4 = 0 ∧ S1.1 42 5 = 4 ∧ S1.1 42 6 = 1 ∧ S1.1 42 7 = 0 ∧ S1.1 42 8 = 0 ∧ S1.1 42 9 = 0 ∧ S1.1 42 10 = 0 ∧ S1.1 42 13 = 0 ∧ S1.1 42 14 = 0 ∧ S1.1 42 24 = (-1) ∧ S1.1 42 25 = 0 ∧ S1.1 42 26 = 0 ∧ S1.1 42 30 = 0 ∧ S1.1 42 37 = (-2)) ∧ (∀ a, S1.1 45 a = 0) ∧ (∀ a, S1.1 54 a = 0) ∧ (∀ a, S1.1 67 a = 0) ∧ (∀ r, r < 13 → S1.1 43 r = ft r) ∧ (∀ r, r < 4 → S1.1 44 r = (-2))
set_option maxRecDepth 100000 in
set_option maxHeartbeats 4000000 in
theorem p_init12 {V : Vt} {S : Me} (h : V.1 = 42) {Q : Vt → Me → Prop} (k : ∀ V1 S1, inB V S V1 S1 → Q V1 S1) : PT_X12_init (nV V 11 0) 42 (nS V S) Q := by
  obtain ⟨n, T, L, F⟩ := V
  have hn : n = 42 := h
  subst hn
  obtain ⟨V0, hv0⟩ : ∃ V0, V0 = nV (42, T, L, F) 11 0 := ⟨_, rfl⟩
  obtain ⟨S0, hs0⟩ : ∃ S0, S0 = nS (42, T, L, F) S := ⟨_, rfl⟩
  rw [← hv0, ← hs0]
  rw [nV_e 42 43 rfl] at hv0
  rw [nS_e (n := 42) rfl] at hs0
  unfold PT_X12_init
  intro U1 a4a V2 a4b S3 a4c
  have a4u : U1.1 = 43 := by rw [a4a, hv0]
  rw [a4a, hv0, nV_e 43 44 rfl] at a4b
  rw [nS_e a4u] at a4c
  intro S5 a6c
  try rw [a4u] at a6c
  change S5 = sI S3 43 0 3 at a6c
  intro S7 a8c
  try rw [a4u] at a8c
  change S7 = sI S5 43 1 8 at a8c
  intro S9 a10c
  try rw [a4u] at a10c
  change S9 = sI S7 43 2 3 at a10c
  intro S11 a12c
  try rw [a4u] at a12c
  change S11 = sI S9 43 3 2 at a12c
  intro S13 a14c
  try rw [a4u] at a14c
  change S13 = sI S11 43 4 4 at a14c
  intro S15 a16c
  try rw [a4u] at a16c
  change S15 = sI S13 43 5 4 at a16c
  intro S17 a18c
  try rw [a4u] at a18c
  change S17 = sI S15 43 6 2 at a18c
  intro S19 a20c
  try rw [a4u] at a20c
  change S19 = sI S17 43 7 5 at a20c
  intro S21 a22c
  try rw [a4u] at a22c
  change S21 = sI S19 43 8 6 at a22c
  intro S23 a24c
  try rw [a4u] at a24c
  change S23 = sI S21 43 9 2 at a24c
  intro S25 a26c
  try rw [a4u] at a26c
  change S25 = sI S23 43 10 12 at a26c
  intro S27 a28c
  try rw [a4u] at a28c
  change S27 = sI S25 43 11 10 at a28c
  intro S29 a30c
  try rw [a4u] at a30c
  change S29 = sI S27 43 12 3 at a30c
  intro U31 a33a V32 a33b
  rw [a33a, a4b] at a33b
  try rw [a4u] at a33b
  rw [fV_e] at a33b
  intro S34 a35c
  intro S36 a37c
  intro S38 a39c
  intro U40 a43a V41 a43b S42 a43c
  have a43u : U40.1 = 44 := by rw [a43a, a33b]
  rw [a43a, a33b, nV_e 44 45 rfl] at a43b
  rw [nS_e a43u] at a43c
  intro S44 a45c
  try rw [a43u] at a45c
  change S44 = sI S42 44 0 (-2) at a45c
  intro S46 a47c
  try rw [a43u] at a47c
  change S46 = sI S44 44 1 (-2) at a47c
  intro S48 a49c
  try rw [a43u] at a49c
  change S48 = sI S46 44 2 (-2) at a49c
  intro S50 a51c
  try rw [a43u] at a51c
  change S50 = sI S48 44 3 (-2) at a51c
  intro U52 a54a V53 a54b
  rw [a54a, a43b] at a54b
  try rw [a43u] at a54b
  rw [fV_e] at a54b
  intro U55 a58a V56 a58b S57 a58c
  have a58u : U55.1 = 45 := by rw [a58a, a54b]
  rw [a58a, a54b, nV_e 45 46 rfl] at a58b
  rw [nS_e a58u] at a58c
  intro U59 a61a V60 a61b
  rw [a61a, a58b] at a61b
  try rw [a58u] at a61b
  rw [fV_e] at a61b
  intro U62 a65a V63 a65b S64 a65c
  have a65u : U62.1 = 46 := by rw [a65a, a61b]
  rw [a65a, a61b, nV_e 46 47 rfl] at a65b
  rw [nS_e a65u] at a65c
  intro U66 a68a V67 a68b
  rw [a68a, a65b] at a68b
  try rw [a65u] at a68b
  rw [fV_e] at a68b
  intro U69 a72a V70 a72b S71 a72c
  have a72u : U69.1 = 47 := by rw [a72a, a68b]
  rw [a72a, a68b, nV_e 47 48 rfl] at a72b
  rw [nS_e a72u] at a72c
  intro U73 a75a V74 a75b
  rw [a75a, a72b] at a75b
  try rw [a72u] at a75b
  rw [fV_e] at a75b
  intro U76 a79a V77 a79b S78 a79c
  have a79u : U76.1 = 48 := by rw [a79a, a75b]
  rw [a79a, a75b, nV_e 48 49 rfl] at a79b
  rw [nS_e a79u] at a79c
  intro U80 a82a V81 a82b
  rw [a82a, a79b] at a82b
  try rw [a79u] at a82b
  rw [fV_e] at a82b
  intro U83 a86a V84 a86b S85 a86c
  have a86u : U83.1 = 49 := by rw [a86a, a82b]
  rw [a86a, a82b, nV_e 49 50 rfl] at a86b
  rw [nS_e a86u] at a86c
  intro U87 a89a V88 a89b
  rw [a89a, a86b] at a89b
  try rw [a86u] at a89b
  rw [fV_e] at a89b
  intro U90 a93a V91 a93b S92 a93c
  have a93u : U90.1 = 50 := by rw [a93a, a89b]
  rw [a93a, a89b, nV_e 50 51 rfl] at a93b
  rw [nS_e a93u] at a93c
  intro U94 a96a V95 a96b
  rw [a96a, a93b] at a96b
  try rw [a93u] at a96b
  rw [fV_e] at a96b
  intro U97 a100a V98 a100b S99 a100c
  have a100u : U97.1 = 51 := by rw [a100a, a96b]
  rw [a100a, a96b, nV_e 51 52 rfl] at a100b
  rw [nS_e a100u] at a100c
  intro U101 a103a V102 a103b
  rw [a103a, a100b] at a103b
  try rw [a100u] at a103b
  rw [fV_e] at a103b
  intro U104 a107a V105 a107b S106 a107c
  have a107u : U104.1 = 52 := by rw [a107a, a103b]
  rw [a107a, a103b, nV_e 52 53 rfl] at a107b
  rw [nS_e a107u] at a107c
  intro U108 a110a V109 a110b
  rw [a110a, a107b] at a110b
  try rw [a107u] at a110b
  rw [fV_e] at a110b
  intro U111 a114a V112 a114b S113 a114c
  have a114u : U111.1 = 53 := by rw [a114a, a110b]
  rw [a114a, a110b, nV_e 53 54 rfl] at a114b
  rw [nS_e a114u] at a114c
  intro U115 a117a V116 a117b
  rw [a117a, a114b] at a117b
  try rw [a114u] at a117b
  rw [fV_e] at a117b
  intro U118 a121a V119 a121b S120 a121c
  have a121u : U118.1 = 54 := by rw [a121a, a117b]
  rw [a121a, a117b, nV_e 54 55 rfl] at a121b
  rw [nS_e a121u] at a121c
  intro U122 a124a V123 a124b
  rw [a124a, a121b] at a124b
  try rw [a121u] at a124b
  rw [fV_e] at a124b
  intro S125 a126c
  intro U127 a130a V128 a130b S129 a130c
  have a130u : U127.1 = 55 := by rw [a130a, a124b]
  rw [a130a, a124b, nV_e 55 56 rfl] at a130b
  rw [nS_e a130u] at a130c
  intro U131 a133a V132 a133b
  rw [a133a, a130b] at a133b
  try rw [a130u] at a133b
  rw [fV_e] at a133b
  intro U134 a137a V135 a137b S136 a137c
  have a137u : U134.1 = 56 := by rw [a137a, a133b]
  rw [a137a, a133b, nV_e 56 57 rfl] at a137b
  rw [nS_e a137u] at a137c
  intro U138 a140a V139 a140b
  rw [a140a, a137b] at a140b
  try rw [a137u] at a140b
  rw [fV_e] at a140b
  intro U141 a144a V142 a144b S143 a144c
  have a144u : U141.1 = 57 := by rw [a144a, a140b]
  rw [a144a, a140b, nV_e 57 58 rfl] at a144b
  rw [nS_e a144u] at a144c
  intro U145 a147a V146 a147b
  rw [a147a, a144b] at a147b
  try rw [a144u] at a147b
  rw [fV_e] at a147b
  intro U148 a151a V149 a151b S150 a151c
  have a151u : U148.1 = 58 := by rw [a151a, a147b]
  rw [a151a, a147b, nV_e 58 59 rfl] at a151b
  rw [nS_e a151u] at a151c
  intro U152 a154a V153 a154b
  rw [a154a, a151b] at a154b
  try rw [a151u] at a154b
  rw [fV_e] at a154b
  intro U155 a158a V156 a158b S157 a158c
  have a158u : U155.1 = 59 := by rw [a158a, a154b]
  rw [a158a, a154b, nV_e 59 60 rfl] at a158b
  rw [nS_e a158u] at a158c
  intro U159 a161a V160 a161b
  rw [a161a, a158b] at a161b
  try rw [a158u] at a161b
  rw [fV_e] at a161b
  intro U162 a165a V163 a165b S164 a165c
  have a165u : U162.1 = 60 := by rw [a165a, a161b]
  rw [a165a, a161b, nV_e 60 61 rfl] at a165b
  rw [nS_e a165u] at a165c
  intro U166 a168a V167 a168b
  rw [a168a, a165b] at a168b
  try rw [a165u] at a168b
  rw [fV_e] at a168b
  intro U169 a172a V170 a172b S171 a172c
  have a172u : U169.1 = 61 := by rw [a172a, a168b]
  rw [a172a, a168b, nV_e 61 62 rfl] at a172b
  rw [nS_e a172u] at a172c
  intro U173 a175a V174 a175b
  rw [a175a, a172b] at a175b
  try rw [a172u] at a175b
  rw [fV_e] at a175b
  intro U176 a179a V177 a179b S178 a179c
  have a179u : U176.1 = 62 := by rw [a179a, a175b]
  rw [a179a, a175b, nV_e 62 63 rfl] at a179b
  rw [nS_e a179u] at a179c
  intro U180 a182a V181 a182b
  rw [a182a, a179b] at a182b
  try rw [a179u] at a182b
  rw [fV_e] at a182b
  intro U183 a186a V184 a186b S185 a186c
  have a186u : U183.1 = 63 := by rw [a186a, a182b]
  rw [a186a, a182b, nV_e 63 64 rfl] at a186b
  rw [nS_e a186u] at a186c
  intro U187 a189a V188 a189b
  rw [a189a, a186b] at a189b
  try rw [a186u] at a189b
  rw [fV_e] at a189b
  intro S190 a191c
  intro U192 a195a V193 a195b S194 a195c
  have a195u : U192.1 = 64 := by rw [a195a, a189b]
  rw [a195a, a189b, nV_e 64 65 rfl] at a195b
  rw [nS_e a195u] at a195c
  intro U196 a198a V197 a198b
  rw [a198a, a195b] at a198b
  try rw [a195u] at a198b
  rw [fV_e] at a198b
  intro U199 a202a V200 a202b S201 a202c
  have a202u : U199.1 = 65 := by rw [a202a, a198b]
  rw [a202a, a198b, nV_e 65 66 rfl] at a202b
  rw [nS_e a202u] at a202c
  intro U203 a205a V204 a205b
  rw [a205a, a202b] at a205b
  try rw [a202u] at a205b
  rw [fV_e] at a205b
  intro U206 a209a V207 a209b S208 a209c
  have a209u : U206.1 = 66 := by rw [a209a, a205b]
  rw [a209a, a205b, nV_e 66 67 rfl] at a209b
  rw [nS_e a209u] at a209c
  intro U210 a212a V211 a212b
  rw [a212a, a209b] at a212b
  try rw [a209u] at a212b
  rw [fV_e] at a212b
  intro U213 a216a V214 a216b S215 a216c
  have a216u : U213.1 = 67 := by rw [a216a, a212b]
  rw [a216a, a212b, nV_e 67 68 rfl] at a216b
  rw [nS_e a216u] at a216c
  intro U217 a219a V218 a219b
  rw [a219a, a216b] at a219b
  try rw [a216u] at a219b
  rw [fV_e] at a219b
  intro U220 a223a V221 a223b S222 a223c
  have a223u : U220.1 = 68 := by rw [a223a, a219b]
  rw [a223a, a219b, nV_e 68 69 rfl] at a223b
  rw [nS_e a223u] at a223c
  intro U224 a226a V225 a226b
  rw [a226a, a223b] at a226b
  try rw [a223u] at a226b
  rw [fV_e] at a226b
  intro U227 a230a V228 a230b S229 a230c
  have a230u : U227.1 = 69 := by rw [a230a, a226b]
  rw [a230a, a226b, nV_e 69 70 rfl] at a230b
  rw [nS_e a230u] at a230c
  intro U231 a233a V232 a233b
  rw [a233a, a230b] at a233b
  try rw [a230u] at a233b
  rw [fV_e] at a233b
  intro U234 a237a V235 a237b S236 a237c
  have a237u : U234.1 = 70 := by rw [a237a, a233b]
  rw [a237a, a233b, nV_e 70 71 rfl] at a237b
  rw [nS_e a237u] at a237c
  intro U238 a240a V239 a240b
  rw [a240a, a237b] at a240b
  try rw [a237u] at a240b
  rw [fV_e] at a240b
  intro U241 a244a V242 a244b S243 a244c
  have a244u : U241.1 = 71 := by rw [a244a, a240b]
  rw [a244a, a240b, nV_e 71 72 rfl] at a244b
  rw [nS_e a244u] at a244c
  intro U245 a247a V246 a247b
  rw [a247a, a244b] at a247b
  try rw [a244u] at a247b
  rw [fV_e] at a247b
  refine k _ _ ⟨⟨by rw [a247b], ⟨by rw [a247b]; exact (by decide : 42 ≤ 72), fun a ha => ?_⟩, by unfold fX12; (repeat' apply And.intro) <;> (rw [a247b]; first | (show (_ : Nat) < 72; decide) | rfl)⟩, ?_, ⟨?_, ?_, ?_, ?_, ?_, ?_, ?_, ?_, ?_, ?_, ?_, ?_, ?_, ?_, ?_, ?_⟩, ?_, ?_, ?_, ?_, ?_⟩
  · replace ha : a < 42 := ha
    rw [a247b]
    dsimp only
    refine ⟨?_, ?_, ?_⟩
    · repeat rw [aT_na (by omega)]
    · repeat rw [aT_na (by omega)]
    · repeat first | rw [aN_na (by omega)] | rw [aF_na (by omega)]
  · intro b hb
    refine ⟨?_, ?_⟩
    · rw [a244c, nZ_1 (by omega), a237c, nZ_1 (by omega), a230c, nZ_1 (by omega), a223c, nZ_1 (by omega), a216c, nZ_1 (by omega), a209c, nZ_1 (by omega), a202c, nZ_1 (by omega), a195c, nZ_1 (by omega), a191c, sI_na (by omega), a186c, nZ_1 (by omega), a179c, nZ_1 (by omega), a172c, nZ_1 (by omega), a165c, nZ_1 (by omega), a158c, nZ_1 (by omega), a151c, nZ_1 (by omega), a144c, nZ_1 (by omega), a137c, nZ_1 (by omega), a130c, nZ_1 (by omega), a126c, sI_na (by omega), a121c, nZ_1 (by omega), a114c, nZ_1 (by omega), a107c, nZ_1 (by omega), a100c, nZ_1 (by omega), a93c, nZ_1 (by omega), a86c, nZ_1 (by omega), a79c, nZ_1 (by omega), a72c, nZ_1 (by omega), a65c, nZ_1 (by omega), a58c, nZ_1 (by omega), a51c, sI_na (by omega), a49c, sI_na (by omega), a47c, sI_na (by omega), a45c, sI_na (by omega), a43c, nZ_1 (by omega), a39c, sI_na (by omega), a37c, sI_na (by omega), a35c, sI_na (by omega), a30c, sI_na (by omega), a28c, sI_na (by omega), a26c, sI_na (by omega), a24c, sI_na (by omega), a22c, sI_na (by omega), a20c, sI_na (by omega), a18c, sI_na (by omega), a16c, sI_na (by omega), a14c, sI_na (by omega), a12c, sI_na (by omega), a10c, sI_na (by omega), a8c, sI_na (by omega), a6c, sI_na (by omega), a4c, nZ_1 (by omega), hs0, nZ_1 (by omega)]
    · rw [a244c, nZ_2 (by omega), a237c, nZ_2 (by omega), a230c, nZ_2 (by omega), a223c, nZ_2 (by omega), a216c, nZ_2 (by omega), a209c, nZ_2 (by omega), a202c, nZ_2 (by omega), a195c, nZ_2 (by omega), a191c, sI_2, a186c, nZ_2 (by omega), a179c, nZ_2 (by omega), a172c, nZ_2 (by omega), a165c, nZ_2 (by omega), a158c, nZ_2 (by omega), a151c, nZ_2 (by omega), a144c, nZ_2 (by omega), a137c, nZ_2 (by omega), a130c, nZ_2 (by omega), a126c, sI_2, a121c, nZ_2 (by omega), a114c, nZ_2 (by omega), a107c, nZ_2 (by omega), a100c, nZ_2 (by omega), a93c, nZ_2 (by omega), a86c, nZ_2 (by omega), a79c, nZ_2 (by omega), a72c, nZ_2 (by omega), a65c, nZ_2 (by omega), a58c, nZ_2 (by omega), a51c, sI_2, a49c, sI_2, a47c, sI_2, a45c, sI_2, a43c, nZ_2 (by omega), a39c, sI_2, a37c, sI_2, a35c, sI_2, a30c, sI_2, a28c, sI_2, a26c, sI_2, a24c, sI_2, a22c, sI_2, a20c, sI_2, a18c, sI_2, a16c, sI_2, a14c, sI_2, a12c, sI_2, a10c, sI_2, a8c, sI_2, a6c, sI_2, a4c, nZ_2 (by omega), hs0, nZ_2 (by omega)]
  · rw [a244c, nZ_1 (by decide), a237c, nZ_1 (by decide), a230c, nZ_1 (by decide), a223c, nZ_1 (by decide), a216c, nZ_1 (by decide), a209c, nZ_1 (by decide), a202c, nZ_1 (by decide), a195c, nZ_1 (by decide), a191c, sI_ne (by decide), a186c, nZ_1 (by decide), a179c, nZ_1 (by decide), a172c, nZ_1 (by decide), a165c, nZ_1 (by decide), a158c, nZ_1 (by decide), a151c, nZ_1 (by decide), a144c, nZ_1 (by decide), a137c, nZ_1 (by decide), a130c, nZ_1 (by decide), a126c, sI_ne (by decide), a121c, nZ_1 (by decide), a114c, nZ_1 (by decide), a107c, nZ_1 (by decide), a100c, nZ_1 (by decide), a93c, nZ_1 (by decide), a86c, nZ_1 (by decide), a79c, nZ_1 (by decide), a72c, nZ_1 (by decide), a65c, nZ_1 (by decide), a58c, nZ_1 (by decide), a51c, sI_na (by decide), a49c, sI_na (by decide), a47c, sI_na (by decide), a45c, sI_na (by decide), a43c, nZ_1 (by decide), a39c, sI_ne (by decide), a37c, sI_ne (by decide), a35c, sI_ne (by decide), a30c, sI_na (by decide), a28c, sI_na (by decide), a26c, sI_na (by decide), a24c, sI_na (by decide), a22c, sI_na (by decide), a20c, sI_na (by decide), a18c, sI_na (by decide), a16c, sI_na (by decide), a14c, sI_na (by decide), a12c, sI_na (by decide), a10c, sI_na (by decide), a8c, sI_na (by decide), a6c, sI_na (by decide), a4c, nZ_1 (by decide), hs0, nZ_e]
  · rw [a244c, nZ_1 (by decide), a237c, nZ_1 (by decide), a230c, nZ_1 (by decide), a223c, nZ_1 (by decide), a216c, nZ_1 (by decide), a209c, nZ_1 (by decide), a202c, nZ_1 (by decide), a195c, nZ_1 (by decide), a191c, sI_ne (by decide), a186c, nZ_1 (by decide), a179c, nZ_1 (by decide), a172c, nZ_1 (by decide), a165c, nZ_1 (by decide), a158c, nZ_1 (by decide), a151c, nZ_1 (by decide), a144c, nZ_1 (by decide), a137c, nZ_1 (by decide), a130c, nZ_1 (by decide), a126c, sI_ne (by decide), a121c, nZ_1 (by decide), a114c, nZ_1 (by decide), a107c, nZ_1 (by decide), a100c, nZ_1 (by decide), a93c, nZ_1 (by decide), a86c, nZ_1 (by decide), a79c, nZ_1 (by decide), a72c, nZ_1 (by decide), a65c, nZ_1 (by decide), a58c, nZ_1 (by decide), a51c, sI_na (by decide), a49c, sI_na (by decide), a47c, sI_na (by decide), a45c, sI_na (by decide), a43c, nZ_1 (by decide), a39c, sI_ne (by decide), a37c, sI_ne (by decide), a35c, sI_eq]
  · rw [a244c, nZ_1 (by decide), a237c, nZ_1 (by decide), a230c, nZ_1 (by decide), a223c, nZ_1 (by decide), a216c, nZ_1 (by decide), a209c, nZ_1 (by decide), a202c, nZ_1 (by decide), a195c, nZ_1 (by decide), a191c, sI_ne (by decide), a186c, nZ_1 (by decide), a179c, nZ_1 (by decide), a172c, nZ_1 (by decide), a165c, nZ_1 (by decide), a158c, nZ_1 (by decide), a151c, nZ_1 (by decide), a144c, nZ_1 (by decide), a137c, nZ_1 (by decide), a130c, nZ_1 (by decide), a126c, sI_ne (by decide), a121c, nZ_1 (by decide), a114c, nZ_1 (by decide), a107c, nZ_1 (by decide), a100c, nZ_1 (by decide), a93c, nZ_1 (by decide), a86c, nZ_1 (by decide), a79c, nZ_1 (by decide), a72c, nZ_1 (by decide), a65c, nZ_1 (by decide), a58c, nZ_1 (by decide), a51c, sI_na (by decide), a49c, sI_na (by decide), a47c, sI_na (by decide), a45c, sI_na (by decide), a43c, nZ_1 (by decide), a39c, sI_ne (by decide), a37c, sI_ne (by decide), a35c, sI_ne (by decide), a30c, sI_na (by decide), a28c, sI_na (by decide), a26c, sI_na (by decide), a24c, sI_na (by decide), a22c, sI_na (by decide), a20c, sI_na (by decide), a18c, sI_na (by decide), a16c, sI_na (by decide), a14c, sI_na (by decide), a12c, sI_na (by decide), a10c, sI_na (by decide), a8c, sI_na (by decide), a6c, sI_na (by decide), a4c, nZ_1 (by decide), hs0, nZ_e]
  · rw [a244c, nZ_1 (by decide), a237c, nZ_1 (by decide), a230c, nZ_1 (by decide), a223c, nZ_1 (by decide), a216c, nZ_1 (by decide), a209c, nZ_1 (by decide), a202c, nZ_1 (by decide), a195c, nZ_1 (by decide), a191c, sI_ne (by decide), a186c, nZ_1 (by decide), a179c, nZ_1 (by decide), a172c, nZ_1 (by decide), a165c, nZ_1 (by decide), a158c, nZ_1 (by decide), a151c, nZ_1 (by decide), a144c, nZ_1 (by decide), a137c, nZ_1 (by decide), a130c, nZ_1 (by decide), a126c, sI_ne (by decide), a121c, nZ_1 (by decide), a114c, nZ_1 (by decide), a107c, nZ_1 (by decide), a100c, nZ_1 (by decide), a93c, nZ_1 (by decide), a86c, nZ_1 (by decide), a79c, nZ_1 (by decide), a72c, nZ_1 (by decide), a65c, nZ_1 (by decide), a58c, nZ_1 (by decide), a51c, sI_na (by decide), a49c, sI_na (by decide), a47c, sI_na (by decide), a45c, sI_na (by decide), a43c, nZ_1 (by decide), a39c, sI_ne (by decide), a37c, sI_eq]
  · rw [a244c, nZ_1 (by decide), a237c, nZ_1 (by decide), a230c, nZ_1 (by decide), a223c, nZ_1 (by decide), a216c, nZ_1 (by decide), a209c, nZ_1 (by decide), a202c, nZ_1 (by decide), a195c, nZ_1 (by decide), a191c, sI_ne (by decide), a186c, nZ_1 (by decide), a179c, nZ_1 (by decide), a172c, nZ_1 (by decide), a165c, nZ_1 (by decide), a158c, nZ_1 (by decide), a151c, nZ_1 (by decide), a144c, nZ_1 (by decide), a137c, nZ_1 (by decide), a130c, nZ_1 (by decide), a126c, sI_ne (by decide), a121c, nZ_1 (by decide), a114c, nZ_1 (by decide), a107c, nZ_1 (by decide), a100c, nZ_1 (by decide), a93c, nZ_1 (by decide), a86c, nZ_1 (by decide), a79c, nZ_1 (by decide), a72c, nZ_1 (by decide), a65c, nZ_1 (by decide), a58c, nZ_1 (by decide), a51c, sI_na (by decide), a49c, sI_na (by decide), a47c, sI_na (by decide), a45c, sI_na (by decide), a43c, nZ_1 (by decide), a39c, sI_eq]
  · rw [a244c, nZ_1 (by decide), a237c, nZ_1 (by decide), a230c, nZ_1 (by decide), a223c, nZ_1 (by decide), a216c, nZ_1 (by decide), a209c, nZ_1 (by decide), a202c, nZ_1 (by decide), a195c, nZ_1 (by decide), a191c, sI_ne (by decide), a186c, nZ_1 (by decide), a179c, nZ_1 (by decide), a172c, nZ_1 (by decide), a165c, nZ_1 (by decide), a158c, nZ_1 (by decide), a151c, nZ_1 (by decide), a144c, nZ_1 (by decide), a137c, nZ_1 (by decide), a130c, nZ_1 (by decide), a126c, sI_ne (by decide), a121c, nZ_1 (by decide), a114c, nZ_1 (by decide), a107c, nZ_1 (by decide), a100c, nZ_1 (by decide), a93c, nZ_1 (by decide), a86c, nZ_1 (by decide), a79c, nZ_1 (by decide), a72c, nZ_1 (by decide), a65c, nZ_1 (by decide), a58c, nZ_1 (by decide), a51c, sI_na (by decide), a49c, sI_na (by decide), a47c, sI_na (by decide), a45c, sI_na (by decide), a43c, nZ_1 (by decide), a39c, sI_ne (by decide), a37c, sI_ne (by decide), a35c, sI_ne (by decide), a30c, sI_na (by decide), a28c, sI_na (by decide), a26c, sI_na (by decide), a24c, sI_na (by decide), a22c, sI_na (by decide), a20c, sI_na (by decide), a18c, sI_na (by decide), a16c, sI_na (by decide), a14c, sI_na (by decide), a12c, sI_na (by decide), a10c, sI_na (by decide), a8c, sI_na (by decide), a6c, sI_na (by decide), a4c, nZ_1 (by decide), hs0, nZ_e]
  · rw [a244c, nZ_1 (by decide), a237c, nZ_1 (by decide), a230c, nZ_1 (by decide), a223c, nZ_1 (by decide), a216c, nZ_1 (by decide), a209c, nZ_1 (by decide), a202c, nZ_1 (by decide), a195c, nZ_1 (by decide), a191c, sI_ne (by decide), a186c, nZ_1 (by decide), a179c, nZ_1 (by decide), a172c, nZ_1 (by decide), a165c, nZ_1 (by decide), a158c, nZ_1 (by decide), a151c, nZ_1 (by decide), a144c, nZ_1 (by decide), a137c, nZ_1 (by decide), a130c, nZ_1 (by decide), a126c, sI_ne (by decide), a121c, nZ_1 (by decide), a114c, nZ_1 (by decide), a107c, nZ_1 (by decide), a100c, nZ_1 (by decide), a93c, nZ_1 (by decide), a86c, nZ_1 (by decide), a79c, nZ_1 (by decide), a72c, nZ_1 (by decide), a65c, nZ_1 (by decide), a58c, nZ_1 (by decide), a51c, sI_na (by decide), a49c, sI_na (by decide), a47c, sI_na (by decide), a45c, sI_na (by decide), a43c, nZ_1 (by decide), a39c, sI_ne (by decide), a37c, sI_ne (by decide), a35c, sI_ne (by decide), a30c, sI_na (by decide), a28c, sI_na (by decide), a26c, sI_na (by decide), a24c, sI_na (by decide), a22c, sI_na (by decide), a20c, sI_na (by decide), a18c, sI_na (by decide), a16c, sI_na (by decide), a14c, sI_na (by decide), a12c, sI_na (by decide), a10c, sI_na (by decide), a8c, sI_na (by decide), a6c, sI_na (by decide), a4c, nZ_1 (by decide), hs0, nZ_e]
  · rw [a244c, nZ_1 (by decide), a237c, nZ_1 (by decide), a230c, nZ_1 (by decide), a223c, nZ_1 (by decide), a216c, nZ_1 (by decide), a209c, nZ_1 (by decide), a202c, nZ_1 (by decide), a195c, nZ_1 (by decide), a191c, sI_ne (by decide), a186c, nZ_1 (by decide), a179c, nZ_1 (by decide), a172c, nZ_1 (by decide), a165c, nZ_1 (by decide), a158c, nZ_1 (by decide), a151c, nZ_1 (by decide), a144c, nZ_1 (by decide), a137c, nZ_1 (by decide), a130c, nZ_1 (by decide), a126c, sI_ne (by decide), a121c, nZ_1 (by decide), a114c, nZ_1 (by decide), a107c, nZ_1 (by decide), a100c, nZ_1 (by decide), a93c, nZ_1 (by decide), a86c, nZ_1 (by decide), a79c, nZ_1 (by decide), a72c, nZ_1 (by decide), a65c, nZ_1 (by decide), a58c, nZ_1 (by decide), a51c, sI_na (by decide), a49c, sI_na (by decide), a47c, sI_na (by decide), a45c, sI_na (by decide), a43c, nZ_1 (by decide), a39c, sI_ne (by decide), a37c, sI_ne (by decide), a35c, sI_ne (by decide), a30c, sI_na (by decide), a28c, sI_na (by decide), a26c, sI_na (by decide), a24c, sI_na (by decide), a22c, sI_na (by decide), a20c, sI_na (by decide), a18c, sI_na (by decide), a16c, sI_na (by decide), a14c, sI_na (by decide), a12c, sI_na (by decide), a10c, sI_na (by decide), a8c, sI_na (by decide), a6c, sI_na (by decide), a4c, nZ_1 (by decide), hs0, nZ_e]
  · rw [a244c, nZ_1 (by decide), a237c, nZ_1 (by decide), a230c, nZ_1 (by decide), a223c, nZ_1 (by decide), a216c, nZ_1 (by decide), a209c, nZ_1 (by decide), a202c, nZ_1 (by decide), a195c, nZ_1 (by decide), a191c, sI_ne (by decide), a186c, nZ_1 (by decide), a179c, nZ_1 (by decide), a172c, nZ_1 (by decide), a165c, nZ_1 (by decide), a158c, nZ_1 (by decide), a151c, nZ_1 (by decide), a144c, nZ_1 (by decide), a137c, nZ_1 (by decide), a130c, nZ_1 (by decide), a126c, sI_ne (by decide), a121c, nZ_1 (by decide), a114c, nZ_1 (by decide), a107c, nZ_1 (by decide), a100c, nZ_1 (by decide), a93c, nZ_1 (by decide), a86c, nZ_1 (by decide), a79c, nZ_1 (by decide), a72c, nZ_1 (by decide), a65c, nZ_1 (by decide), a58c, nZ_1 (by decide), a51c, sI_na (by decide), a49c, sI_na (by decide), a47c, sI_na (by decide), a45c, sI_na (by decide), a43c, nZ_1 (by decide), a39c, sI_ne (by decide), a37c, sI_ne (by decide), a35c, sI_ne (by decide), a30c, sI_na (by decide), a28c, sI_na (by decide), a26c, sI_na (by decide), a24c, sI_na (by decide), a22c, sI_na (by decide), a20c, sI_na (by decide), a18c, sI_na (by decide), a16c, sI_na (by decide), a14c, sI_na (by decide), a12c, sI_na (by decide), a10c, sI_na (by decide), a8c, sI_na (by decide), a6c, sI_na (by decide), a4c, nZ_1 (by decide), hs0, nZ_e]
  · rw [a244c, nZ_1 (by decide), a237c, nZ_1 (by decide), a230c, nZ_1 (by decide), a223c, nZ_1 (by decide), a216c, nZ_1 (by decide), a209c, nZ_1 (by decide), a202c, nZ_1 (by decide), a195c, nZ_1 (by decide), a191c, sI_ne (by decide), a186c, nZ_1 (by decide), a179c, nZ_1 (by decide), a172c, nZ_1 (by decide), a165c, nZ_1 (by decide), a158c, nZ_1 (by decide), a151c, nZ_1 (by decide), a144c, nZ_1 (by decide), a137c, nZ_1 (by decide), a130c, nZ_1 (by decide), a126c, sI_ne (by decide), a121c, nZ_1 (by decide), a114c, nZ_1 (by decide), a107c, nZ_1 (by decide), a100c, nZ_1 (by decide), a93c, nZ_1 (by decide), a86c, nZ_1 (by decide), a79c, nZ_1 (by decide), a72c, nZ_1 (by decide), a65c, nZ_1 (by decide), a58c, nZ_1 (by decide), a51c, sI_na (by decide), a49c, sI_na (by decide), a47c, sI_na (by decide), a45c, sI_na (by decide), a43c, nZ_1 (by decide), a39c, sI_ne (by decide), a37c, sI_ne (by decide), a35c, sI_ne (by decide), a30c, sI_na (by decide), a28c, sI_na (by decide), a26c, sI_na (by decide), a24c, sI_na (by decide), a22c, sI_na (by decide), a20c, sI_na (by decide), a18c, sI_na (by decide), a16c, sI_na (by decide), a14c, sI_na (by decide), a12c, sI_na (by decide), a10c, sI_na (by decide), a8c, sI_na (by decide), a6c, sI_na (by decide), a4c, nZ_1 (by decide), hs0, nZ_e]
  · rw [a244c, nZ_1 (by decide), a237c, nZ_1 (by decide), a230c, nZ_1 (by decide), a223c, nZ_1 (by decide), a216c, nZ_1 (by decide), a209c, nZ_1 (by decide), a202c, nZ_1 (by decide), a195c, nZ_1 (by decide), a191c, sI_ne (by decide), a186c, nZ_1 (by decide), a179c, nZ_1 (by decide), a172c, nZ_1 (by decide), a165c, nZ_1 (by decide), a158c, nZ_1 (by decide), a151c, nZ_1 (by decide), a144c, nZ_1 (by decide), a137c, nZ_1 (by decide), a130c, nZ_1 (by decide), a126c, sI_ne (by decide), a121c, nZ_1 (by decide), a114c, nZ_1 (by decide), a107c, nZ_1 (by decide), a100c, nZ_1 (by decide), a93c, nZ_1 (by decide), a86c, nZ_1 (by decide), a79c, nZ_1 (by decide), a72c, nZ_1 (by decide), a65c, nZ_1 (by decide), a58c, nZ_1 (by decide), a51c, sI_na (by decide), a49c, sI_na (by decide), a47c, sI_na (by decide), a45c, sI_na (by decide), a43c, nZ_1 (by decide), a39c, sI_ne (by decide), a37c, sI_ne (by decide), a35c, sI_ne (by decide), a30c, sI_na (by decide), a28c, sI_na (by decide), a26c, sI_na (by decide), a24c, sI_na (by decide), a22c, sI_na (by decide), a20c, sI_na (by decide), a18c, sI_na (by decide), a16c, sI_na (by decide), a14c, sI_na (by decide), a12c, sI_na (by decide), a10c, sI_na (by decide), a8c, sI_na (by decide), a6c, sI_na (by decide), a4c, nZ_1 (by decide), hs0, nZ_e]
  · rw [a244c, nZ_1 (by decide), a237c, nZ_1 (by decide), a230c, nZ_1 (by decide), a223c, nZ_1 (by decide), a216c, nZ_1 (by decide), a209c, nZ_1 (by decide), a202c, nZ_1 (by decide), a195c, nZ_1 (by decide), a191c, sI_ne (by decide), a186c, nZ_1 (by decide), a179c, nZ_1 (by decide), a172c, nZ_1 (by decide), a165c, nZ_1 (by decide), a158c, nZ_1 (by decide), a151c, nZ_1 (by decide), a144c, nZ_1 (by decide), a137c, nZ_1 (by decide), a130c, nZ_1 (by decide), a126c, sI_eq]
  · rw [a244c, nZ_1 (by decide), a237c, nZ_1 (by decide), a230c, nZ_1 (by decide), a223c, nZ_1 (by decide), a216c, nZ_1 (by decide), a209c, nZ_1 (by decide), a202c, nZ_1 (by decide), a195c, nZ_1 (by decide), a191c, sI_ne (by decide), a186c, nZ_1 (by decide), a179c, nZ_1 (by decide), a172c, nZ_1 (by decide), a165c, nZ_1 (by decide), a158c, nZ_1 (by decide), a151c, nZ_1 (by decide), a144c, nZ_1 (by decide), a137c, nZ_1 (by decide), a130c, nZ_1 (by decide), a126c, sI_ne (by decide), a121c, nZ_1 (by decide), a114c, nZ_1 (by decide), a107c, nZ_1 (by decide), a100c, nZ_1 (by decide), a93c, nZ_1 (by decide), a86c, nZ_1 (by decide), a79c, nZ_1 (by decide), a72c, nZ_1 (by decide), a65c, nZ_1 (by decide), a58c, nZ_1 (by decide), a51c, sI_na (by decide), a49c, sI_na (by decide), a47c, sI_na (by decide), a45c, sI_na (by decide), a43c, nZ_1 (by decide), a39c, sI_ne (by decide), a37c, sI_ne (by decide), a35c, sI_ne (by decide), a30c, sI_na (by decide), a28c, sI_na (by decide), a26c, sI_na (by decide), a24c, sI_na (by decide), a22c, sI_na (by decide), a20c, sI_na (by decide), a18c, sI_na (by decide), a16c, sI_na (by decide), a14c, sI_na (by decide), a12c, sI_na (by decide), a10c, sI_na (by decide), a8c, sI_na (by decide), a6c, sI_na (by decide), a4c, nZ_1 (by decide), hs0, nZ_e]
  · rw [a244c, nZ_1 (by decide), a237c, nZ_1 (by decide), a230c, nZ_1 (by decide), a223c, nZ_1 (by decide), a216c, nZ_1 (by decide), a209c, nZ_1 (by decide), a202c, nZ_1 (by decide), a195c, nZ_1 (by decide), a191c, sI_ne (by decide), a186c, nZ_1 (by decide), a179c, nZ_1 (by decide), a172c, nZ_1 (by decide), a165c, nZ_1 (by decide), a158c, nZ_1 (by decide), a151c, nZ_1 (by decide), a144c, nZ_1 (by decide), a137c, nZ_1 (by decide), a130c, nZ_1 (by decide), a126c, sI_ne (by decide), a121c, nZ_1 (by decide), a114c, nZ_1 (by decide), a107c, nZ_1 (by decide), a100c, nZ_1 (by decide), a93c, nZ_1 (by decide), a86c, nZ_1 (by decide), a79c, nZ_1 (by decide), a72c, nZ_1 (by decide), a65c, nZ_1 (by decide), a58c, nZ_1 (by decide), a51c, sI_na (by decide), a49c, sI_na (by decide), a47c, sI_na (by decide), a45c, sI_na (by decide), a43c, nZ_1 (by decide), a39c, sI_ne (by decide), a37c, sI_ne (by decide), a35c, sI_ne (by decide), a30c, sI_na (by decide), a28c, sI_na (by decide), a26c, sI_na (by decide), a24c, sI_na (by decide), a22c, sI_na (by decide), a20c, sI_na (by decide), a18c, sI_na (by decide), a16c, sI_na (by decide), a14c, sI_na (by decide), a12c, sI_na (by decide), a10c, sI_na (by decide), a8c, sI_na (by decide), a6c, sI_na (by decide), a4c, nZ_1 (by decide), hs0, nZ_e]
  · rw [a244c, nZ_1 (by decide), a237c, nZ_1 (by decide), a230c, nZ_1 (by decide), a223c, nZ_1 (by decide), a216c, nZ_1 (by decide), a209c, nZ_1 (by decide), a202c, nZ_1 (by decide), a195c, nZ_1 (by decide), a191c, sI_ne (by decide), a186c, nZ_1 (by decide), a179c, nZ_1 (by decide), a172c, nZ_1 (by decide), a165c, nZ_1 (by decide), a158c, nZ_1 (by decide), a151c, nZ_1 (by decide), a144c, nZ_1 (by decide), a137c, nZ_1 (by decide), a130c, nZ_1 (by decide), a126c, sI_ne (by decide), a121c, nZ_1 (by decide), a114c, nZ_1 (by decide), a107c, nZ_1 (by decide), a100c, nZ_1 (by decide), a93c, nZ_1 (by decide), a86c, nZ_1 (by decide), a79c, nZ_1 (by decide), a72c, nZ_1 (by decide), a65c, nZ_1 (by decide), a58c, nZ_1 (by decide), a51c, sI_na (by decide), a49c, sI_na (by decide), a47c, sI_na (by decide), a45c, sI_na (by decide), a43c, nZ_1 (by decide), a39c, sI_ne (by decide), a37c, sI_ne (by decide), a35c, sI_ne (by decide), a30c, sI_na (by decide), a28c, sI_na (by decide), a26c, sI_na (by decide), a24c, sI_na (by decide), a22c, sI_na (by decide), a20c, sI_na (by decide), a18c, sI_na (by decide), a16c, sI_na (by decide), a14c, sI_na (by decide), a12c, sI_na (by decide), a10c, sI_na (by decide), a8c, sI_na (by decide), a6c, sI_na (by decide), a4c, nZ_1 (by decide), hs0, nZ_e]
  · rw [a244c, nZ_1 (by decide), a237c, nZ_1 (by decide), a230c, nZ_1 (by decide), a223c, nZ_1 (by decide), a216c, nZ_1 (by decide), a209c, nZ_1 (by decide), a202c, nZ_1 (by decide), a195c, nZ_1 (by decide), a191c, sI_eq]
  · intro a; rw [a244c, nZ_1 (by decide), a237c, nZ_1 (by decide), a230c, nZ_1 (by decide), a223c, nZ_1 (by decide), a216c, nZ_1 (by decide), a209c, nZ_1 (by decide), a202c, nZ_1 (by decide), a195c, nZ_1 (by decide), a191c, sI_na (by decide), a186c, nZ_1 (by decide), a179c, nZ_1 (by decide), a172c, nZ_1 (by decide), a165c, nZ_1 (by decide), a158c, nZ_1 (by decide), a151c, nZ_1 (by decide), a144c, nZ_1 (by decide), a137c, nZ_1 (by decide), a130c, nZ_1 (by decide), a126c, sI_na (by decide), a121c, nZ_1 (by decide), a114c, nZ_1 (by decide), a107c, nZ_1 (by decide), a100c, nZ_1 (by decide), a93c, nZ_1 (by decide), a86c, nZ_1 (by decide), a79c, nZ_1 (by decide), a72c, nZ_1 (by decide), a65c, nZ_1 (by decide), a58c, nZ_e]
  · intro a; rw [a244c, nZ_1 (by decide), a237c, nZ_1 (by decide), a230c, nZ_1 (by decide), a223c, nZ_1 (by decide), a216c, nZ_1 (by decide), a209c, nZ_1 (by decide), a202c, nZ_1 (by decide), a195c, nZ_1 (by decide), a191c, sI_na (by decide), a186c, nZ_1 (by decide), a179c, nZ_1 (by decide), a172c, nZ_1 (by decide), a165c, nZ_1 (by decide), a158c, nZ_1 (by decide), a151c, nZ_1 (by decide), a144c, nZ_1 (by decide), a137c, nZ_1 (by decide), a130c, nZ_1 (by decide), a126c, sI_na (by decide), a121c, nZ_e]
  · intro a; rw [a244c, nZ_1 (by decide), a237c, nZ_1 (by decide), a230c, nZ_1 (by decide), a223c, nZ_1 (by decide), a216c, nZ_e]
  · intro r hr
    have hb : r = 0 ∨ r = 1 ∨ r = 2 ∨ r = 3 ∨ r = 4 ∨ r = 5 ∨ r = 6 ∨ r = 7 ∨ r = 8 ∨ r = 9 ∨ r = 10 ∨ r = 11 ∨ r = 12 := by omega
    rcases hb with rfl | rfl | rfl | rfl | rfl | rfl | rfl | rfl | rfl | rfl | rfl | rfl | rfl
    · rw [a244c, nZ_1 (by decide), a237c, nZ_1 (by decide), a230c, nZ_1 (by decide), a223c, nZ_1 (by decide), a216c, nZ_1 (by decide), a209c, nZ_1 (by decide), a202c, nZ_1 (by decide), a195c, nZ_1 (by decide), a191c, sI_na (by decide), a186c, nZ_1 (by decide), a179c, nZ_1 (by decide), a172c, nZ_1 (by decide), a165c, nZ_1 (by decide), a158c, nZ_1 (by decide), a151c, nZ_1 (by decide), a144c, nZ_1 (by decide), a137c, nZ_1 (by decide), a130c, nZ_1 (by decide), a126c, sI_na (by decide), a121c, nZ_1 (by decide), a114c, nZ_1 (by decide), a107c, nZ_1 (by decide), a100c, nZ_1 (by decide), a93c, nZ_1 (by decide), a86c, nZ_1 (by decide), a79c, nZ_1 (by decide), a72c, nZ_1 (by decide), a65c, nZ_1 (by decide), a58c, nZ_1 (by decide), a51c, sI_na (by decide), a49c, sI_na (by decide), a47c, sI_na (by decide), a45c, sI_na (by decide), a43c, nZ_1 (by decide), a39c, sI_na (by decide), a37c, sI_na (by decide), a35c, sI_na (by decide), a30c, sI_ne (by decide), a28c, sI_ne (by decide), a26c, sI_ne (by decide), a24c, sI_ne (by decide), a22c, sI_ne (by decide), a20c, sI_ne (by decide), a18c, sI_ne (by decide), a16c, sI_ne (by decide), a14c, sI_ne (by decide), a12c, sI_ne (by decide), a10c, sI_ne (by decide), a8c, sI_ne (by decide), a6c, sI_eq]; rfl
    · rw [a244c, nZ_1 (by decide), a237c, nZ_1 (by decide), a230c, nZ_1 (by decide), a223c, nZ_1 (by decide), a216c, nZ_1 (by decide), a209c, nZ_1 (by decide), a202c, nZ_1 (by decide), a195c, nZ_1 (by decide), a191c, sI_na (by decide), a186c, nZ_1 (by decide), a179c, nZ_1 (by decide), a172c, nZ_1 (by decide), a165c, nZ_1 (by decide), a158c, nZ_1 (by decide), a151c, nZ_1 (by decide), a144c, nZ_1 (by decide), a137c, nZ_1 (by decide), a130c, nZ_1 (by decide), a126c, sI_na (by decide), a121c, nZ_1 (by decide), a114c, nZ_1 (by decide), a107c, nZ_1 (by decide), a100c, nZ_1 (by decide), a93c, nZ_1 (by decide), a86c, nZ_1 (by decide), a79c, nZ_1 (by decide), a72c, nZ_1 (by decide), a65c, nZ_1 (by decide), a58c, nZ_1 (by decide), a51c, sI_na (by decide), a49c, sI_na (by decide), a47c, sI_na (by decide), a45c, sI_na (by decide), a43c, nZ_1 (by decide), a39c, sI_na (by decide), a37c, sI_na (by decide), a35c, sI_na (by decide), a30c, sI_ne (by decide), a28c, sI_ne (by decide), a26c, sI_ne (by decide), a24c, sI_ne (by decide), a22c, sI_ne (by decide), a20c, sI_ne (by decide), a18c, sI_ne (by decide), a16c, sI_ne (by decide), a14c, sI_ne (by decide), a12c, sI_ne (by decide), a10c, sI_ne (by decide), a8c, sI_eq]; rfl
    · rw [a244c, nZ_1 (by decide), a237c, nZ_1 (by decide), a230c, nZ_1 (by decide), a223c, nZ_1 (by decide), a216c, nZ_1 (by decide), a209c, nZ_1 (by decide), a202c, nZ_1 (by decide), a195c, nZ_1 (by decide), a191c, sI_na (by decide), a186c, nZ_1 (by decide), a179c, nZ_1 (by decide), a172c, nZ_1 (by decide), a165c, nZ_1 (by decide), a158c, nZ_1 (by decide), a151c, nZ_1 (by decide), a144c, nZ_1 (by decide), a137c, nZ_1 (by decide), a130c, nZ_1 (by decide), a126c, sI_na (by decide), a121c, nZ_1 (by decide), a114c, nZ_1 (by decide), a107c, nZ_1 (by decide), a100c, nZ_1 (by decide), a93c, nZ_1 (by decide), a86c, nZ_1 (by decide), a79c, nZ_1 (by decide), a72c, nZ_1 (by decide), a65c, nZ_1 (by decide), a58c, nZ_1 (by decide), a51c, sI_na (by decide), a49c, sI_na (by decide), a47c, sI_na (by decide), a45c, sI_na (by decide), a43c, nZ_1 (by decide), a39c, sI_na (by decide), a37c, sI_na (by decide), a35c, sI_na (by decide), a30c, sI_ne (by decide), a28c, sI_ne (by decide), a26c, sI_ne (by decide), a24c, sI_ne (by decide), a22c, sI_ne (by decide), a20c, sI_ne (by decide), a18c, sI_ne (by decide), a16c, sI_ne (by decide), a14c, sI_ne (by decide), a12c, sI_ne (by decide), a10c, sI_eq]; rfl
    · rw [a244c, nZ_1 (by decide), a237c, nZ_1 (by decide), a230c, nZ_1 (by decide), a223c, nZ_1 (by decide), a216c, nZ_1 (by decide), a209c, nZ_1 (by decide), a202c, nZ_1 (by decide), a195c, nZ_1 (by decide), a191c, sI_na (by decide), a186c, nZ_1 (by decide), a179c, nZ_1 (by decide), a172c, nZ_1 (by decide), a165c, nZ_1 (by decide), a158c, nZ_1 (by decide), a151c, nZ_1 (by decide), a144c, nZ_1 (by decide), a137c, nZ_1 (by decide), a130c, nZ_1 (by decide), a126c, sI_na (by decide), a121c, nZ_1 (by decide), a114c, nZ_1 (by decide), a107c, nZ_1 (by decide), a100c, nZ_1 (by decide), a93c, nZ_1 (by decide), a86c, nZ_1 (by decide), a79c, nZ_1 (by decide), a72c, nZ_1 (by decide), a65c, nZ_1 (by decide), a58c, nZ_1 (by decide), a51c, sI_na (by decide), a49c, sI_na (by decide), a47c, sI_na (by decide), a45c, sI_na (by decide), a43c, nZ_1 (by decide), a39c, sI_na (by decide), a37c, sI_na (by decide), a35c, sI_na (by decide), a30c, sI_ne (by decide), a28c, sI_ne (by decide), a26c, sI_ne (by decide), a24c, sI_ne (by decide), a22c, sI_ne (by decide), a20c, sI_ne (by decide), a18c, sI_ne (by decide), a16c, sI_ne (by decide), a14c, sI_ne (by decide), a12c, sI_eq]; rfl
    · rw [a244c, nZ_1 (by decide), a237c, nZ_1 (by decide), a230c, nZ_1 (by decide), a223c, nZ_1 (by decide), a216c, nZ_1 (by decide), a209c, nZ_1 (by decide), a202c, nZ_1 (by decide), a195c, nZ_1 (by decide), a191c, sI_na (by decide), a186c, nZ_1 (by decide), a179c, nZ_1 (by decide), a172c, nZ_1 (by decide), a165c, nZ_1 (by decide), a158c, nZ_1 (by decide), a151c, nZ_1 (by decide), a144c, nZ_1 (by decide), a137c, nZ_1 (by decide), a130c, nZ_1 (by decide), a126c, sI_na (by decide), a121c, nZ_1 (by decide), a114c, nZ_1 (by decide), a107c, nZ_1 (by decide), a100c, nZ_1 (by decide), a93c, nZ_1 (by decide), a86c, nZ_1 (by decide), a79c, nZ_1 (by decide), a72c, nZ_1 (by decide), a65c, nZ_1 (by decide), a58c, nZ_1 (by decide), a51c, sI_na (by decide), a49c, sI_na (by decide), a47c, sI_na (by decide), a45c, sI_na (by decide), a43c, nZ_1 (by decide), a39c, sI_na (by decide), a37c, sI_na (by decide), a35c, sI_na (by decide), a30c, sI_ne (by decide), a28c, sI_ne (by decide), a26c, sI_ne (by decide), a24c, sI_ne (by decide), a22c, sI_ne (by decide), a20c, sI_ne (by decide), a18c, sI_ne (by decide), a16c, sI_ne (by decide), a14c, sI_eq]; rfl
    · rw [a244c, nZ_1 (by decide), a237c, nZ_1 (by decide), a230c, nZ_1 (by decide), a223c, nZ_1 (by decide), a216c, nZ_1 (by decide), a209c, nZ_1 (by decide), a202c, nZ_1 (by decide), a195c, nZ_1 (by decide), a191c, sI_na (by decide), a186c, nZ_1 (by decide), a179c, nZ_1 (by decide), a172c, nZ_1 (by decide), a165c, nZ_1 (by decide), a158c, nZ_1 (by decide), a151c, nZ_1 (by decide), a144c, nZ_1 (by decide), a137c, nZ_1 (by decide), a130c, nZ_1 (by decide), a126c, sI_na (by decide), a121c, nZ_1 (by decide), a114c, nZ_1 (by decide), a107c, nZ_1 (by decide), a100c, nZ_1 (by decide), a93c, nZ_1 (by decide), a86c, nZ_1 (by decide), a79c, nZ_1 (by decide), a72c, nZ_1 (by decide), a65c, nZ_1 (by decide), a58c, nZ_1 (by decide), a51c, sI_na (by decide), a49c, sI_na (by decide), a47c, sI_na (by decide), a45c, sI_na (by decide), a43c, nZ_1 (by decide), a39c, sI_na (by decide), a37c, sI_na (by decide), a35c, sI_na (by decide), a30c, sI_ne (by decide), a28c, sI_ne (by decide), a26c, sI_ne (by decide), a24c, sI_ne (by decide), a22c, sI_ne (by decide), a20c, sI_ne (by decide), a18c, sI_ne (by decide), a16c, sI_eq]; rfl
    · rw [a244c, nZ_1 (by decide), a237c, nZ_1 (by decide), a230c, nZ_1 (by decide), a223c, nZ_1 (by decide), a216c, nZ_1 (by decide), a209c, nZ_1 (by decide), a202c, nZ_1 (by decide), a195c, nZ_1 (by decide), a191c, sI_na (by decide), a186c, nZ_1 (by decide), a179c, nZ_1 (by decide), a172c, nZ_1 (by decide), a165c, nZ_1 (by decide), a158c, nZ_1 (by decide), a151c, nZ_1 (by decide), a144c, nZ_1 (by decide), a137c, nZ_1 (by decide), a130c, nZ_1 (by decide), a126c, sI_na (by decide), a121c, nZ_1 (by decide), a114c, nZ_1 (by decide), a107c, nZ_1 (by decide), a100c, nZ_1 (by decide), a93c, nZ_1 (by decide), a86c, nZ_1 (by decide), a79c, nZ_1 (by decide), a72c, nZ_1 (by decide), a65c, nZ_1 (by decide), a58c, nZ_1 (by decide), a51c, sI_na (by decide), a49c, sI_na (by decide), a47c, sI_na (by decide), a45c, sI_na (by decide), a43c, nZ_1 (by decide), a39c, sI_na (by decide), a37c, sI_na (by decide), a35c, sI_na (by decide), a30c, sI_ne (by decide), a28c, sI_ne (by decide), a26c, sI_ne (by decide), a24c, sI_ne (by decide), a22c, sI_ne (by decide), a20c, sI_ne (by decide), a18c, sI_eq]; rfl
    · rw [a244c, nZ_1 (by decide), a237c, nZ_1 (by decide), a230c, nZ_1 (by decide), a223c, nZ_1 (by decide), a216c, nZ_1 (by decide), a209c, nZ_1 (by decide), a202c, nZ_1 (by decide), a195c, nZ_1 (by decide), a191c, sI_na (by decide), a186c, nZ_1 (by decide), a179c, nZ_1 (by decide), a172c, nZ_1 (by decide), a165c, nZ_1 (by decide), a158c, nZ_1 (by decide), a151c, nZ_1 (by decide), a144c, nZ_1 (by decide), a137c, nZ_1 (by decide), a130c, nZ_1 (by decide), a126c, sI_na (by decide), a121c, nZ_1 (by decide), a114c, nZ_1 (by decide), a107c, nZ_1 (by decide), a100c, nZ_1 (by decide), a93c, nZ_1 (by decide), a86c, nZ_1 (by decide), a79c, nZ_1 (by decide), a72c, nZ_1 (by decide), a65c, nZ_1 (by decide), a58c, nZ_1 (by decide), a51c, sI_na (by decide), a49c, sI_na (by decide), a47c, sI_na (by decide), a45c, sI_na (by decide), a43c, nZ_1 (by decide), a39c, sI_na (by decide), a37c, sI_na (by decide), a35c, sI_na (by decide), a30c, sI_ne (by decide), a28c, sI_ne (by decide), a26c, sI_ne (by decide), a24c, sI_ne (by decide), a22c, sI_ne (by decide), a20c, sI_eq]; rfl
    · rw [a244c, nZ_1 (by decide), a237c, nZ_1 (by decide), a230c, nZ_1 (by decide), a223c, nZ_1 (by decide), a216c, nZ_1 (by decide), a209c, nZ_1 (by decide), a202c, nZ_1 (by decide), a195c, nZ_1 (by decide), a191c, sI_na (by decide), a186c, nZ_1 (by decide), a179c, nZ_1 (by decide), a172c, nZ_1 (by decide), a165c, nZ_1 (by decide), a158c, nZ_1 (by decide), a151c, nZ_1 (by decide), a144c, nZ_1 (by decide), a137c, nZ_1 (by decide), a130c, nZ_1 (by decide), a126c, sI_na (by decide), a121c, nZ_1 (by decide), a114c, nZ_1 (by decide), a107c, nZ_1 (by decide), a100c, nZ_1 (by decide), a93c, nZ_1 (by decide), a86c, nZ_1 (by decide), a79c, nZ_1 (by decide), a72c, nZ_1 (by decide), a65c, nZ_1 (by decide), a58c, nZ_1 (by decide), a51c, sI_na (by decide), a49c, sI_na (by decide), a47c, sI_na (by decide), a45c, sI_na (by decide), a43c, nZ_1 (by decide), a39c, sI_na (by decide), a37c, sI_na (by decide), a35c, sI_na (by decide), a30c, sI_ne (by decide), a28c, sI_ne (by decide), a26c, sI_ne (by decide), a24c, sI_ne (by decide), a22c, sI_eq]; rfl
    · rw [a244c, nZ_1 (by decide), a237c, nZ_1 (by decide), a230c, nZ_1 (by decide), a223c, nZ_1 (by decide), a216c, nZ_1 (by decide), a209c, nZ_1 (by decide), a202c, nZ_1 (by decide), a195c, nZ_1 (by decide), a191c, sI_na (by decide), a186c, nZ_1 (by decide), a179c, nZ_1 (by decide), a172c, nZ_1 (by decide), a165c, nZ_1 (by decide), a158c, nZ_1 (by decide), a151c, nZ_1 (by decide), a144c, nZ_1 (by decide), a137c, nZ_1 (by decide), a130c, nZ_1 (by decide), a126c, sI_na (by decide), a121c, nZ_1 (by decide), a114c, nZ_1 (by decide), a107c, nZ_1 (by decide), a100c, nZ_1 (by decide), a93c, nZ_1 (by decide), a86c, nZ_1 (by decide), a79c, nZ_1 (by decide), a72c, nZ_1 (by decide), a65c, nZ_1 (by decide), a58c, nZ_1 (by decide), a51c, sI_na (by decide), a49c, sI_na (by decide), a47c, sI_na (by decide), a45c, sI_na (by decide), a43c, nZ_1 (by decide), a39c, sI_na (by decide), a37c, sI_na (by decide), a35c, sI_na (by decide), a30c, sI_ne (by decide), a28c, sI_ne (by decide), a26c, sI_ne (by decide), a24c, sI_eq]; rfl
    · rw [a244c, nZ_1 (by decide), a237c, nZ_1 (by decide), a230c, nZ_1 (by decide), a223c, nZ_1 (by decide), a216c, nZ_1 (by decide), a209c, nZ_1 (by decide), a202c, nZ_1 (by decide), a195c, nZ_1 (by decide), a191c, sI_na (by decide), a186c, nZ_1 (by decide), a179c, nZ_1 (by decide), a172c, nZ_1 (by decide), a165c, nZ_1 (by decide), a158c, nZ_1 (by decide), a151c, nZ_1 (by decide), a144c, nZ_1 (by decide), a137c, nZ_1 (by decide), a130c, nZ_1 (by decide), a126c, sI_na (by decide), a121c, nZ_1 (by decide), a114c, nZ_1 (by decide), a107c, nZ_1 (by decide), a100c, nZ_1 (by decide), a93c, nZ_1 (by decide), a86c, nZ_1 (by decide), a79c, nZ_1 (by decide), a72c, nZ_1 (by decide), a65c, nZ_1 (by decide), a58c, nZ_1 (by decide), a51c, sI_na (by decide), a49c, sI_na (by decide), a47c, sI_na (by decide), a45c, sI_na (by decide), a43c, nZ_1 (by decide), a39c, sI_na (by decide), a37c, sI_na (by decide), a35c, sI_na (by decide), a30c, sI_ne (by decide), a28c, sI_ne (by decide), a26c, sI_eq]; rfl
    · rw [a244c, nZ_1 (by decide), a237c, nZ_1 (by decide), a230c, nZ_1 (by decide), a223c, nZ_1 (by decide), a216c, nZ_1 (by decide), a209c, nZ_1 (by decide), a202c, nZ_1 (by decide), a195c, nZ_1 (by decide), a191c, sI_na (by decide), a186c, nZ_1 (by decide), a179c, nZ_1 (by decide), a172c, nZ_1 (by decide), a165c, nZ_1 (by decide), a158c, nZ_1 (by decide), a151c, nZ_1 (by decide), a144c, nZ_1 (by decide), a137c, nZ_1 (by decide), a130c, nZ_1 (by decide), a126c, sI_na (by decide), a121c, nZ_1 (by decide), a114c, nZ_1 (by decide), a107c, nZ_1 (by decide), a100c, nZ_1 (by decide), a93c, nZ_1 (by decide), a86c, nZ_1 (by decide), a79c, nZ_1 (by decide), a72c, nZ_1 (by decide), a65c, nZ_1 (by decide), a58c, nZ_1 (by decide), a51c, sI_na (by decide), a49c, sI_na (by decide), a47c, sI_na (by decide), a45c, sI_na (by decide), a43c, nZ_1 (by decide), a39c, sI_na (by decide), a37c, sI_na (by decide), a35c, sI_na (by decide), a30c, sI_ne (by decide), a28c, sI_eq]; rfl
    · rw [a244c, nZ_1 (by decide), a237c, nZ_1 (by decide), a230c, nZ_1 (by decide), a223c, nZ_1 (by decide), a216c, nZ_1 (by decide), a209c, nZ_1 (by decide), a202c, nZ_1 (by decide), a195c, nZ_1 (by decide), a191c, sI_na (by decide), a186c, nZ_1 (by decide), a179c, nZ_1 (by decide), a172c, nZ_1 (by decide), a165c, nZ_1 (by decide), a158c, nZ_1 (by decide), a151c, nZ_1 (by decide), a144c, nZ_1 (by decide), a137c, nZ_1 (by decide), a130c, nZ_1 (by decide), a126c, sI_na (by decide), a121c, nZ_1 (by decide), a114c, nZ_1 (by decide), a107c, nZ_1 (by decide), a100c, nZ_1 (by decide), a93c, nZ_1 (by decide), a86c, nZ_1 (by decide), a79c, nZ_1 (by decide), a72c, nZ_1 (by decide), a65c, nZ_1 (by decide), a58c, nZ_1 (by decide), a51c, sI_na (by decide), a49c, sI_na (by decide), a47c, sI_na (by decide), a45c, sI_na (by decide), a43c, nZ_1 (by decide), a39c, sI_na (by decide), a37c, sI_na (by decide), a35c, sI_na (by decide), a30c, sI_eq]; rfl
  · intro r hr
    have hb : r = 0 ∨ r = 1 ∨ r = 2 ∨ r = 3 := by omega
    rcases hb with rfl | rfl | rfl | rfl
    · rw [a244c, nZ_1 (by decide), a237c, nZ_1 (by decide), a230c, nZ_1 (by decide), a223c, nZ_1 (by decide), a216c, nZ_1 (by decide), a209c, nZ_1 (by decide), a202c, nZ_1 (by decide), a195c, nZ_1 (by decide), a191c, sI_na (by decide), a186c, nZ_1 (by decide), a179c, nZ_1 (by decide), a172c, nZ_1 (by decide), a165c, nZ_1 (by decide), a158c, nZ_1 (by decide), a151c, nZ_1 (by decide), a144c, nZ_1 (by decide), a137c, nZ_1 (by decide), a130c, nZ_1 (by decide), a126c, sI_na (by decide), a121c, nZ_1 (by decide), a114c, nZ_1 (by decide), a107c, nZ_1 (by decide), a100c, nZ_1 (by decide), a93c, nZ_1 (by decide), a86c, nZ_1 (by decide), a79c, nZ_1 (by decide), a72c, nZ_1 (by decide), a65c, nZ_1 (by decide), a58c, nZ_1 (by decide), a51c, sI_ne (by decide), a49c, sI_ne (by decide), a47c, sI_ne (by decide), a45c, sI_eq]
    · rw [a244c, nZ_1 (by decide), a237c, nZ_1 (by decide), a230c, nZ_1 (by decide), a223c, nZ_1 (by decide), a216c, nZ_1 (by decide), a209c, nZ_1 (by decide), a202c, nZ_1 (by decide), a195c, nZ_1 (by decide), a191c, sI_na (by decide), a186c, nZ_1 (by decide), a179c, nZ_1 (by decide), a172c, nZ_1 (by decide), a165c, nZ_1 (by decide), a158c, nZ_1 (by decide), a151c, nZ_1 (by decide), a144c, nZ_1 (by decide), a137c, nZ_1 (by decide), a130c, nZ_1 (by decide), a126c, sI_na (by decide), a121c, nZ_1 (by decide), a114c, nZ_1 (by decide), a107c, nZ_1 (by decide), a100c, nZ_1 (by decide), a93c, nZ_1 (by decide), a86c, nZ_1 (by decide), a79c, nZ_1 (by decide), a72c, nZ_1 (by decide), a65c, nZ_1 (by decide), a58c, nZ_1 (by decide), a51c, sI_ne (by decide), a49c, sI_ne (by decide), a47c, sI_eq]
    · rw [a244c, nZ_1 (by decide), a237c, nZ_1 (by decide), a230c, nZ_1 (by decide), a223c, nZ_1 (by decide), a216c, nZ_1 (by decide), a209c, nZ_1 (by decide), a202c, nZ_1 (by decide), a195c, nZ_1 (by decide), a191c, sI_na (by decide), a186c, nZ_1 (by decide), a179c, nZ_1 (by decide), a172c, nZ_1 (by decide), a165c, nZ_1 (by decide), a158c, nZ_1 (by decide), a151c, nZ_1 (by decide), a144c, nZ_1 (by decide), a137c, nZ_1 (by decide), a130c, nZ_1 (by decide), a126c, sI_na (by decide), a121c, nZ_1 (by decide), a114c, nZ_1 (by decide), a107c, nZ_1 (by decide), a100c, nZ_1 (by decide), a93c, nZ_1 (by decide), a86c, nZ_1 (by decide), a79c, nZ_1 (by decide), a72c, nZ_1 (by decide), a65c, nZ_1 (by decide), a58c, nZ_1 (by decide), a51c, sI_ne (by decide), a49c, sI_eq]
    · rw [a244c, nZ_1 (by decide), a237c, nZ_1 (by decide), a230c, nZ_1 (by decide), a223c, nZ_1 (by decide), a216c, nZ_1 (by decide), a209c, nZ_1 (by decide), a202c, nZ_1 (by decide), a195c, nZ_1 (by decide), a191c, sI_na (by decide), a186c, nZ_1 (by decide), a179c, nZ_1 (by decide), a172c, nZ_1 (by decide), a165c, nZ_1 (by decide), a158c, nZ_1 (by decide), a151c, nZ_1 (by decide), a144c, nZ_1 (by decide), a137c, nZ_1 (by decide), a130c, nZ_1 (by decide), a126c, sI_na (by decide), a121c, nZ_1 (by decide), a114c, nZ_1 (by decide), a107c, nZ_1 (by decide), a100c, nZ_1 (by decide), a93c, nZ_1 (by decide), a86c, nZ_1 (by decide), a79c, nZ_1 (by decide), a72c, nZ_1 (by decide), a65c, nZ_1 (by decide), a58c, nZ_1 (by decide), a51c, sI_eq]


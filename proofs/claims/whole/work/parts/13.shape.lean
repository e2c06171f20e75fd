theorem vsome {w n : Nat} (h : w < n) : ∀ z, some w = some z → z < n := fun z h9 => by cases h9; exact h
theorem vnone {n : Nat} : ∀ z, (none : Option Nat) = some z → z < n := fun z h9 => by cases h9
theorem ixl {L n : Nat} {i : Int} (e : L = n) (h : i < (n : Int)) : i < (L : Int) := by rw [e]; exact h
theorem isW_A {t : Nat} (h : isW t) : isA t := by omega
theorem hw_le {ad : Nat → Nat} {rest : List Value} (rs : List (Int ⊕ Option Nat)) (h : rest = rs.map (vS ad)) (hl : rs.length ≤ 8) : (rest.map fun v => v.category).sum ≤ 8 := by
  subst h
  have : ((rs.map (vS ad)).map fun v => v.category).sum = rs.length := by
    clear hl
    induction rs with
    | nil => rfl
    | cons a t ih => simp only [List.map_cons, List.sum_cons, List.length_cons, vS_cat, ih]; omega
  rw [this]; exact hl
def fX5 (V : Vt) (o : Nat) : Prop := (o < V.1 ∧ V.2.1 o = 4) ∧ (V.2.2.2 o 0 = some (o + 1) ∧ o + 1 < V.1 ∧ V.2.1 (o + 1) = 12 ∧ V.2.2.1 (o + 1) = 4) ∧ (V.2.2.2 o 1 = some (o + 2) ∧ o + 2 < V.1 ∧ V.2.1 (o + 2) = 12 ∧ V.2.2.1 (o + 2) = 4) ∧ (V.2.2.2 o 2 = some (o + 3) ∧ o + 3 < V.1 ∧ V.2.1 (o + 3) = 12 ∧ V.2.2.1 (o + 3) = 4) ∧ (V.2.2.2 o 3 = some (o + 4) ∧ o + 4 < V.1 ∧ V.2.1 (o + 4) = 12 ∧ V.2.2.1 (o + 4) = 4) ∧ (V.2.2.2 o 4 = some (o + 5) ∧ o + 5 < V.1 ∧ V.2.1 (o + 5) = 12 ∧ V.2.2.1 (o + 5) = 4) ∧ (V.2.2.2 o 5 = some (o + 6) ∧ o + 6 < V.1 ∧ V.2.1 (o + 6) = 12 ∧ V.2.2.1 (o + 6) = 2) ∧ (V.2.2.2 o 6 = some (o + 7) ∧ o + 7 < V.1 ∧ V.2.1 (o + 7) = 12 ∧ V.2.2.1 (o + 7) = 4)
theorem fX5_o {V : Vt} {o : Nat} (h : fX5 V o) : o < V.1 := h.1.1
theorem fX5_c {V : Vt} {o : Nat} (h : fX5 V o) : V.2.1 o = 4 := h.1.2
theorem fX5_opens {V : Vt} {o : Nat} (h : fX5 V o) : V.2.2.2 o 0 = some (o + 1) := h.2.1.1
theorem fX5_opens_l {V : Vt} {o : Nat} (h : fX5 V o) : o + 1 < V.1 := h.2.1.2.1
theorem fX5_opens_t {V : Vt} {o : Nat} (h : fX5 V o) : V.2.1 (o + 1) = 12 := h.2.1.2.2.1
theorem fX5_opens_n {V : Vt} {o : Nat} (h : fX5 V o) : V.2.2.1 (o + 1) = 4 := h.2.1.2.2.2
theorem fX5_opensBeside {V : Vt} {o : Nat} (h : fX5 V o) : V.2.2.2 o 1 = some (o + 2) := h.2.2.1.1
theorem fX5_opensBeside_l {V : Vt} {o : Nat} (h : fX5 V o) : o + 2 < V.1 := h.2.2.1.2.1
theorem fX5_opensBeside_t {V : Vt} {o : Nat} (h : fX5 V o) : V.2.1 (o + 2) = 12 := h.2.2.1.2.2.1
theorem fX5_opensBeside_n {V : Vt} {o : Nat} (h : fX5 V o) : V.2.2.1 (o + 2) = 4 := h.2.2.1.2.2.2
theorem fX5_shuts {V : Vt} {o : Nat} (h : fX5 V o) : V.2.2.2 o 2 = some (o + 3) := h.2.2.2.1.1
theorem fX5_shuts_l {V : Vt} {o : Nat} (h : fX5 V o) : o + 3 < V.1 := h.2.2.2.1.2.1
theorem fX5_shuts_t {V : Vt} {o : Nat} (h : fX5 V o) : V.2.1 (o + 3) = 12 := h.2.2.2.1.2.2.1
theorem fX5_shuts_n {V : Vt} {o : Nat} (h : fX5 V o) : V.2.2.1 (o + 3) = 4 := h.2.2.2.1.2.2.2
theorem fX5_reads {V : Vt} {o : Nat} (h : fX5 V o) : V.2.2.2 o 3 = some (o + 4) := h.2.2.2.2.1.1
theorem fX5_reads_l {V : Vt} {o : Nat} (h : fX5 V o) : o + 4 < V.1 := h.2.2.2.2.1.2.1
theorem fX5_reads_t {V : Vt} {o : Nat} (h : fX5 V o) : V.2.1 (o + 4) = 12 := h.2.2.2.2.1.2.2.1
theorem fX5_reads_n {V : Vt} {o : Nat} (h : fX5 V o) : V.2.2.1 (o + 4) = 4 := h.2.2.2.2.1.2.2.2
theorem fX5_writes {V : Vt} {o : Nat} (h : fX5 V o) : V.2.2.2 o 4 = some (o + 5) := h.2.2.2.2.2.1.1
theorem fX5_writes_l {V : Vt} {o : Nat} (h : fX5 V o) : o + 5 < V.1 := h.2.2.2.2.2.1.2.1
theorem fX5_writes_t {V : Vt} {o : Nat} (h : fX5 V o) : V.2.1 (o + 5) = 12 := h.2.2.2.2.2.1.2.2.1
theorem fX5_writes_n {V : Vt} {o : Nat} (h : fX5 V o) : V.2.2.1 (o + 5) = 4 := h.2.2.2.2.2.1.2.2.2
theorem fX5_columnsOfGroups {V : Vt} {o : Nat} (h : fX5 V o) : V.2.2.2 o 5 = some (o + 6) := h.2.2.2.2.2.2.1.1
theorem fX5_columnsOfGroups_l {V : Vt} {o : Nat} (h : fX5 V o) : o + 6 < V.1 := h.2.2.2.2.2.2.1.2.1
theorem fX5_columnsOfGroups_t {V : Vt} {o : Nat} (h : fX5 V o) : V.2.1 (o + 6) = 12 := h.2.2.2.2.2.2.1.2.2.1
theorem fX5_columnsOfGroups_n {V : Vt} {o : Nat} (h : fX5 V o) : V.2.2.1 (o + 6) = 2 := h.2.2.2.2.2.2.1.2.2.2
theorem fX5_fourOpens {V : Vt} {o : Nat} (h : fX5 V o) : V.2.2.2 o 6 = some (o + 7) := h.2.2.2.2.2.2.2.1
theorem fX5_fourOpens_l {V : Vt} {o : Nat} (h : fX5 V o) : o + 7 < V.1 := h.2.2.2.2.2.2.2.2.1
theorem fX5_fourOpens_t {V : Vt} {o : Nat} (h : fX5 V o) : V.2.1 (o + 7) = 12 := h.2.2.2.2.2.2.2.2.2.1
theorem fX5_fourOpens_n {V : Vt} {o : Nat} (h : fX5 V o) : V.2.2.1 (o + 7) = 4 := h.2.2.2.2.2.2.2.2.2.2
def fX4 (V : Vt) (o : Nat) : Prop := (o < V.1 ∧ V.2.1 o = 3) ∧ (V.2.2.2 o 0 = some (o + 1) ∧ o + 1 < V.1 ∧ V.2.1 (o + 1) = 12 ∧ V.2.2.1 (o + 1) = 1024) ∧ (V.2.2.2 o 1 = some (o + 2) ∧ o + 2 < V.1 ∧ V.2.1 (o + 2) = 12 ∧ V.2.2.1 (o + 2) = 4)
theorem fX4_o {V : Vt} {o : Nat} (h : fX4 V o) : o < V.1 := h.1.1
theorem fX4_c {V : Vt} {o : Nat} (h : fX4 V o) : V.2.1 o = 3 := h.1.2
theorem fX4_octets {V : Vt} {o : Nat} (h : fX4 V o) : V.2.2.2 o 0 = some (o + 1) := h.2.1.1
theorem fX4_octets_l {V : Vt} {o : Nat} (h : fX4 V o) : o + 1 < V.1 := h.2.1.2.1
theorem fX4_octets_t {V : Vt} {o : Nat} (h : fX4 V o) : V.2.1 (o + 1) = 12 := h.2.1.2.2.1
theorem fX4_octets_n {V : Vt} {o : Nat} (h : fX4 V o) : V.2.2.1 (o + 1) = 1024 := h.2.1.2.2.2
theorem fX4_openRows {V : Vt} {o : Nat} (h : fX4 V o) : V.2.2.2 o 1 = some (o + 2) := h.2.2.1
theorem fX4_openRows_l {V : Vt} {o : Nat} (h : fX4 V o) : o + 2 < V.1 := h.2.2.2.1
theorem fX4_openRows_t {V : Vt} {o : Nat} (h : fX4 V o) : V.2.1 (o + 2) = 12 := h.2.2.2.2.1
theorem fX4_openRows_n {V : Vt} {o : Nat} (h : fX4 V o) : V.2.2.1 (o + 2) = 4 := h.2.2.2.2.2
def fX7 (V : Vt) (o : Nat) : Prop := (o < V.1 ∧ V.2.1 o = 6) ∧ (V.2.2.2 o 0 = some (o + 1) ∧ o + 1 < V.1 ∧ V.2.1 (o + 1) = 13 ∧ V.2.2.1 (o + 1) = 400) ∧ (V.2.2.2 o 1 = some (o + 2) ∧ o + 2 < V.1 ∧ V.2.1 (o + 2) = 12 ∧ V.2.2.1 (o + 2) = 1024) ∧ (V.2.2.2 o 2 = some (o + 3) ∧ o + 3 < V.1 ∧ V.2.1 (o + 3) = 12 ∧ V.2.2.1 (o + 3) = 4) ∧ (V.2.2.2 o 3 = some (o + 4) ∧ o + 4 < V.1 ∧ V.2.1 (o + 4) = 12 ∧ V.2.2.1 (o + 4) = 4)
theorem fX7_o {V : Vt} {o : Nat} (h : fX7 V o) : o < V.1 := h.1.1
theorem fX7_c {V : Vt} {o : Nat} (h : fX7 V o) : V.2.1 o = 6 := h.1.2
theorem fX7_all {V : Vt} {o : Nat} (h : fX7 V o) : V.2.2.2 o 0 = some (o + 1) := h.2.1.1
theorem fX7_all_l {V : Vt} {o : Nat} (h : fX7 V o) : o + 1 < V.1 := h.2.1.2.1
theorem fX7_all_t {V : Vt} {o : Nat} (h : fX7 V o) : V.2.1 (o + 1) = 13 := h.2.1.2.2.1
theorem fX7_all_n {V : Vt} {o : Nat} (h : fX7 V o) : V.2.2.1 (o + 1) = 400 := h.2.1.2.2.2
theorem fX7_plainOctets {V : Vt} {o : Nat} (h : fX7 V o) : V.2.2.2 o 1 = some (o + 2) := h.2.2.1.1
theorem fX7_plainOctets_l {V : Vt} {o : Nat} (h : fX7 V o) : o + 2 < V.1 := h.2.2.1.2.1
theorem fX7_plainOctets_t {V : Vt} {o : Nat} (h : fX7 V o) : V.2.1 (o + 2) = 12 := h.2.2.1.2.2.1
theorem fX7_plainOctets_n {V : Vt} {o : Nat} (h : fX7 V o) : V.2.2.1 (o + 2) = 1024 := h.2.2.1.2.2.2
theorem fX7_doneOf {V : Vt} {o : Nat} (h : fX7 V o) : V.2.2.2 o 2 = some (o + 3) := h.2.2.2.1.1
theorem fX7_doneOf_l {V : Vt} {o : Nat} (h : fX7 V o) : o + 3 < V.1 := h.2.2.2.1.2.1
theorem fX7_doneOf_t {V : Vt} {o : Nat} (h : fX7 V o) : V.2.1 (o + 3) = 12 := h.2.2.2.1.2.2.1
theorem fX7_doneOf_n {V : Vt} {o : Nat} (h : fX7 V o) : V.2.2.1 (o + 3) = 4 := h.2.2.2.1.2.2.2
theorem fX7_worstWaits {V : Vt} {o : Nat} (h : fX7 V o) : V.2.2.2 o 3 = some (o + 4) := h.2.2.2.2.1
theorem fX7_worstWaits_l {V : Vt} {o : Nat} (h : fX7 V o) : o + 4 < V.1 := h.2.2.2.2.2.1
theorem fX7_worstWaits_t {V : Vt} {o : Nat} (h : fX7 V o) : V.2.1 (o + 4) = 12 := h.2.2.2.2.2.2.1
theorem fX7_worstWaits_n {V : Vt} {o : Nat} (h : fX7 V o) : V.2.2.1 (o + 4) = 4 := h.2.2.2.2.2.2.2
def fX1 (V : Vt) (o : Nat) : Prop := (o < V.1 ∧ V.2.1 o = 0) ∧ (V.2.2.2 o 0 = some (o + 1) ∧ o + 1 < V.1 ∧ V.2.1 (o + 1) = 12 ∧ V.2.2.1 (o + 1) = 400) ∧ (V.2.2.2 o 1 = some (o + 2) ∧ o + 2 < V.1 ∧ V.2.1 (o + 2) = 12 ∧ V.2.2.1 (o + 2) = 400) ∧ (V.2.2.2 o 2 = some (o + 3) ∧ o + 3 < V.1 ∧ V.2.1 (o + 3) = 12 ∧ V.2.2.1 (o + 3) = 400) ∧ (V.2.2.2 o 3 = some (o + 4) ∧ o + 4 < V.1 ∧ V.2.1 (o + 4) = 12 ∧ V.2.2.1 (o + 4) = 400) ∧ (V.2.2.2 o 4 = some (o + 5) ∧ o + 5 < V.1 ∧ V.2.1 (o + 5) = 12 ∧ V.2.2.1 (o + 5) = 400) ∧ (V.2.2.2 o 5 = some (o + 6) ∧ o + 6 < V.1 ∧ V.2.1 (o + 6) = 12 ∧ V.2.2.1 (o + 6) = 400) ∧ (V.2.2.2 o 6 = some (o + 7) ∧ fX5 V (o + 7))
theorem fX1_o {V : Vt} {o : Nat} (h : fX1 V o) : o < V.1 := h.1.1
theorem fX1_c {V : Vt} {o : Nat} (h : fX1 V o) : V.2.1 o = 0 := h.1.2
theorem fX1_ticks {V : Vt} {o : Nat} (h : fX1 V o) : V.2.2.2 o 0 = some (o + 1) := h.2.1.1
theorem fX1_ticks_l {V : Vt} {o : Nat} (h : fX1 V o) : o + 1 < V.1 := h.2.1.2.1
theorem fX1_ticks_t {V : Vt} {o : Nat} (h : fX1 V o) : V.2.1 (o + 1) = 12 := h.2.1.2.2.1
theorem fX1_ticks_n {V : Vt} {o : Nat} (h : fX1 V o) : V.2.2.1 (o + 1) = 400 := h.2.1.2.2.2
theorem fX1_forged {V : Vt} {o : Nat} (h : fX1 V o) : V.2.2.2 o 1 = some (o + 2) := h.2.2.1.1
theorem fX1_forged_l {V : Vt} {o : Nat} (h : fX1 V o) : o + 2 < V.1 := h.2.2.1.2.1
theorem fX1_forged_t {V : Vt} {o : Nat} (h : fX1 V o) : V.2.1 (o + 2) = 12 := h.2.2.1.2.2.1
theorem fX1_forged_n {V : Vt} {o : Nat} (h : fX1 V o) : V.2.2.1 (o + 2) = 400 := h.2.2.1.2.2.2
theorem fX1_which {V : Vt} {o : Nat} (h : fX1 V o) : V.2.2.2 o 2 = some (o + 3) := h.2.2.2.1.1
theorem fX1_which_l {V : Vt} {o : Nat} (h : fX1 V o) : o + 3 < V.1 := h.2.2.2.1.2.1
theorem fX1_which_t {V : Vt} {o : Nat} (h : fX1 V o) : V.2.1 (o + 3) = 12 := h.2.2.2.1.2.2.1
theorem fX1_which_n {V : Vt} {o : Nat} (h : fX1 V o) : V.2.2.1 (o + 3) = 400 := h.2.2.2.1.2.2.2
theorem fX1_banks {V : Vt} {o : Nat} (h : fX1 V o) : V.2.2.2 o 3 = some (o + 4) := h.2.2.2.2.1.1
theorem fX1_banks_l {V : Vt} {o : Nat} (h : fX1 V o) : o + 4 < V.1 := h.2.2.2.2.1.2.1
theorem fX1_banks_t {V : Vt} {o : Nat} (h : fX1 V o) : V.2.1 (o + 4) = 12 := h.2.2.2.2.1.2.2.1
theorem fX1_banks_n {V : Vt} {o : Nat} (h : fX1 V o) : V.2.2.1 (o + 4) = 400 := h.2.2.2.2.1.2.2.2
theorem fX1_wheres {V : Vt} {o : Nat} (h : fX1 V o) : V.2.2.2 o 4 = some (o + 5) := h.2.2.2.2.2.1.1
theorem fX1_wheres_l {V : Vt} {o : Nat} (h : fX1 V o) : o + 5 < V.1 := h.2.2.2.2.2.1.2.1
theorem fX1_wheres_t {V : Vt} {o : Nat} (h : fX1 V o) : V.2.1 (o + 5) = 12 := h.2.2.2.2.2.1.2.2.1
theorem fX1_wheres_n {V : Vt} {o : Nat} (h : fX1 V o) : V.2.2.1 (o + 5) = 400 := h.2.2.2.2.2.1.2.2.2
theorem fX1_asks {V : Vt} {o : Nat} (h : fX1 V o) : V.2.2.2 o 5 = some (o + 6) := h.2.2.2.2.2.2.1.1
theorem fX1_asks_l {V : Vt} {o : Nat} (h : fX1 V o) : o + 6 < V.1 := h.2.2.2.2.2.2.1.2.1
theorem fX1_asks_t {V : Vt} {o : Nat} (h : fX1 V o) : V.2.1 (o + 6) = 12 := h.2.2.2.2.2.2.1.2.2.1
theorem fX1_asks_n {V : Vt} {o : Nat} (h : fX1 V o) : V.2.2.1 (o + 6) = 400 := h.2.2.2.2.2.2.1.2.2.2
theorem fX1_checked {V : Vt} {o : Nat} (h : fX1 V o) : V.2.2.2 o 6 = some (o + 7) := h.2.2.2.2.2.2.2.1
theorem fX1_checked_s {V : Vt} {o : Nat} (h : fX1 V o) : fX5 V (o + 7) := h.2.2.2.2.2.2.2.2
def fX11 (V : Vt) (o : Nat) : Prop := (o < V.1 ∧ V.2.1 o = 10) ∧ (V.2.2.2 o 0 = some (o + 1) ∧ o + 1 < V.1 ∧ V.2.1 (o + 1) = 12 ∧ V.2.2.1 (o + 1) = 13) ∧ (V.2.2.2 o 1 = some (o + 2) ∧ fX5 V (o + 2)) ∧ (V.2.2.2 o 2 = some (o + 10) ∧ fX1 V (o + 10)) ∧ (V.2.2.2 o 3 = some (o + 25) ∧ fX4 V (o + 25)) ∧ (V.2.2.2 o 4 = some (o + 28) ∧ fX7 V (o + 28)) ∧ (V.2.2.2 o 5 = some (o + 33) ∧ o + 33 < V.1 ∧ V.2.1 (o + 33) = 14 ∧ V.2.2.1 (o + 33) = 8)
theorem fX11_o {V : Vt} {o : Nat} (h : fX11 V o) : o < V.1 := h.1.1
theorem fX11_c {V : Vt} {o : Nat} (h : fX11 V o) : V.2.1 o = 10 := h.1.2
theorem fX11_times {V : Vt} {o : Nat} (h : fX11 V o) : V.2.2.2 o 0 = some (o + 1) := h.2.1.1
theorem fX11_times_l {V : Vt} {o : Nat} (h : fX11 V o) : o + 1 < V.1 := h.2.1.2.1
theorem fX11_times_t {V : Vt} {o : Nat} (h : fX11 V o) : V.2.1 (o + 1) = 12 := h.2.1.2.2.1
theorem fX11_times_n {V : Vt} {o : Nat} (h : fX11 V o) : V.2.2.1 (o + 1) = 13 := h.2.1.2.2.2
theorem fX11_past {V : Vt} {o : Nat} (h : fX11 V o) : V.2.2.2 o 1 = some (o + 2) := h.2.2.1.1
theorem fX11_past_s {V : Vt} {o : Nat} (h : fX11 V o) : fX5 V (o + 2) := h.2.2.1.2
theorem fX11_commandLog {V : Vt} {o : Nat} (h : fX11 V o) : V.2.2.2 o 2 = some (o + 10) := h.2.2.2.1.1
theorem fX11_commandLog_s {V : Vt} {o : Nat} (h : fX11 V o) : fX1 V (o + 10) := h.2.2.2.1.2
theorem fX11_memory {V : Vt} {o : Nat} (h : fX11 V o) : V.2.2.2 o 3 = some (o + 25) := h.2.2.2.2.1.1
theorem fX11_memory_s {V : Vt} {o : Nat} (h : fX11 V o) : fX4 V (o + 25) := h.2.2.2.2.1.2
theorem fX11_queue {V : Vt} {o : Nat} (h : fX11 V o) : V.2.2.2 o 4 = some (o + 28) := h.2.2.2.2.2.1.1
theorem fX11_queue_s {V : Vt} {o : Nat} (h : fX11 V o) : fX7 V (o + 28) := h.2.2.2.2.2.1.2
theorem fX11_shelves {V : Vt} {o : Nat} (h : fX11 V o) : V.2.2.2 o 5 = some (o + 33) := h.2.2.2.2.2.2.1
theorem fX11_shelves_l {V : Vt} {o : Nat} (h : fX11 V o) : o + 33 < V.1 := h.2.2.2.2.2.2.2.1
theorem fX11_shelves_t {V : Vt} {o : Nat} (h : fX11 V o) : V.2.1 (o + 33) = 14 := h.2.2.2.2.2.2.2.2.1
theorem fX11_shelves_n {V : Vt} {o : Nat} (h : fX11 V o) : V.2.2.1 (o + 33) = 8 := h.2.2.2.2.2.2.2.2.2
def fX12 (V : Vt) (o : Nat) : Prop := (o < V.1 ∧ V.2.1 o = 11) ∧ (V.2.2.2 o 1 = some (o + 1) ∧ o + 1 < V.1 ∧ V.2.1 (o + 1) = 12 ∧ V.2.2.1 (o + 1) = 13) ∧ (V.2.2.2 o 11 = some (o + 2) ∧ o + 2 < V.1 ∧ V.2.1 (o + 2) = 12 ∧ V.2.2.1 (o + 2) = 4) ∧ (V.2.2.2 o 12 = some (o + 3) ∧ o + 3 < V.1 ∧ V.2.1 (o + 3) = 12 ∧ V.2.2.1 (o + 3) = 1024) ∧ (V.2.2.2 o 15 = some (o + 4) ∧ o + 4 < V.1 ∧ V.2.1 (o + 4) = 12 ∧ V.2.2.1 (o + 4) = 400) ∧ (V.2.2.2 o 16 = some (o + 5) ∧ o + 5 < V.1 ∧ V.2.1 (o + 5) = 12 ∧ V.2.2.1 (o + 5) = 400) ∧ (V.2.2.2 o 17 = some (o + 6) ∧ o + 6 < V.1 ∧ V.2.1 (o + 6) = 12 ∧ V.2.2.1 (o + 6) = 400) ∧ (V.2.2.2 o 18 = some (o + 7) ∧ o + 7 < V.1 ∧ V.2.1 (o + 7) = 12 ∧ V.2.2.1 (o + 7) = 400) ∧ (V.2.2.2 o 19 = some (o + 8) ∧ o + 8 < V.1 ∧ V.2.1 (o + 8) = 12 ∧ V.2.2.1 (o + 8) = 400) ∧ (V.2.2.2 o 20 = some (o + 9) ∧ o + 9 < V.1 ∧ V.2.1 (o + 9) = 12 ∧ V.2.2.1 (o + 9) = 400) ∧ (V.2.2.2 o 21 = some (o + 10) ∧ o + 10 < V.1 ∧ V.2.1 (o + 10) = 12 ∧ V.2.2.1 (o + 10) = 400) ∧ (V.2.2.2 o 22 = some (o + 11) ∧ o + 11 < V.1 ∧ V.2.1 (o + 11) = 12 ∧ V.2.2.1 (o + 11) = 400) ∧ (V.2.2.2 o 23 = some (o + 12) ∧ o + 12 < V.1 ∧ V.2.1 (o + 12) = 12 ∧ V.2.2.1 (o + 12) = 4) ∧ (V.2.2.2 o 27 = some (o + 13) ∧ o + 13 < V.1 ∧ V.2.1 (o + 13) = 12 ∧ V.2.2.1 (o + 13) = 40) ∧ (V.2.2.2 o 28 = some (o + 14) ∧ o + 14 < V.1 ∧ V.2.1 (o + 14) = 12 ∧ V.2.2.1 (o + 14) = 40) ∧ (V.2.2.2 o 29 = some (o + 15) ∧ o + 15 < V.1 ∧ V.2.1 (o + 15) = 12 ∧ V.2.2.1 (o + 15) = 40) ∧ (V.2.2.2 o 31 = some (o + 16) ∧ o + 16 < V.1 ∧ V.2.1 (o + 16) = 12 ∧ V.2.2.1 (o + 16) = 400) ∧ (V.2.2.2 o 32 = some (o + 17) ∧ o + 17 < V.1 ∧ V.2.1 (o + 17) = 12 ∧ V.2.2.1 (o + 17) = 400) ∧ (V.2.2.2 o 33 = some (o + 18) ∧ o + 18 < V.1 ∧ V.2.1 (o + 18) = 12 ∧ V.2.2.1 (o + 18) = 400) ∧ (V.2.2.2 o 34 = some (o + 19) ∧ o + 19 < V.1 ∧ V.2.1 (o + 19) = 12 ∧ V.2.2.1 (o + 19) = 400) ∧ (V.2.2.2 o 35 = some (o + 20) ∧ o + 20 < V.1 ∧ V.2.1 (o + 20) = 12 ∧ V.2.2.1 (o + 20) = 400) ∧ (V.2.2.2 o 36 = some (o + 21) ∧ o + 21 < V.1 ∧ V.2.1 (o + 21) = 12 ∧ V.2.2.1 (o + 21) = 400) ∧ (V.2.2.2 o 38 = some (o + 22) ∧ o + 22 < V.1 ∧ V.2.1 (o + 22) = 12 ∧ V.2.2.1 (o + 22) = 12) ∧ (V.2.2.2 o 43 = some (o + 23) ∧ o + 23 < V.1 ∧ V.2.1 (o + 23) = 12 ∧ V.2.2.1 (o + 23) = 400) ∧ (V.2.2.2 o 44 = some (o + 24) ∧ o + 24 < V.1 ∧ V.2.1 (o + 24) = 12 ∧ V.2.2.1 (o + 24) = 1024) ∧ (V.2.2.2 o 45 = some (o + 25) ∧ o + 25 < V.1 ∧ V.2.1 (o + 25) = 12 ∧ V.2.2.1 (o + 25) = 8) ∧ (V.2.2.2 o 46 = some (o + 26) ∧ o + 26 < V.1 ∧ V.2.1 (o + 26) = 12 ∧ V.2.2.1 (o + 26) = 8) ∧ (V.2.2.2 o 47 = some (o + 27) ∧ o + 27 < V.1 ∧ V.2.1 (o + 27) = 12 ∧ V.2.2.1 (o + 27) = 8) ∧ (V.2.2.2 o 48 = some (o + 28) ∧ o + 28 < V.1 ∧ V.2.1 (o + 28) = 12 ∧ V.2.2.1 (o + 28) = 480) ∧ (V.2.2.2 o 49 = some (o + 29) ∧ o + 29 < V.1 ∧ V.2.1 (o + 29) = 12 ∧ V.2.2.1 (o + 29) = 60)
theorem fX12_o {V : Vt} {o : Nat} (h : fX12 V o) : o < V.1 := h.1.1
theorem fX12_c {V : Vt} {o : Nat} (h : fX12 V o) : V.2.1 o = 11 := h.1.2
theorem fX12_time {V : Vt} {o : Nat} (h : fX12 V o) : V.2.2.2 o 1 = some (o + 1) := h.2.1.1
theorem fX12_time_l {V : Vt} {o : Nat} (h : fX12 V o) : o + 1 < V.1 := h.2.1.2.1
theorem fX12_time_t {V : Vt} {o : Nat} (h : fX12 V o) : V.2.1 (o + 1) = 12 := h.2.1.2.2.1
theorem fX12_time_n {V : Vt} {o : Nat} (h : fX12 V o) : V.2.2.1 (o + 1) = 13 := h.2.1.2.2.2
theorem fX12_row {V : Vt} {o : Nat} (h : fX12 V o) : V.2.2.2 o 11 = some (o + 2) := h.2.2.1.1
theorem fX12_row_l {V : Vt} {o : Nat} (h : fX12 V o) : o + 2 < V.1 := h.2.2.1.2.1
theorem fX12_row_t {V : Vt} {o : Nat} (h : fX12 V o) : V.2.1 (o + 2) = 12 := h.2.2.1.2.2.1
theorem fX12_row_n {V : Vt} {o : Nat} (h : fX12 V o) : V.2.2.1 (o + 2) = 4 := h.2.2.1.2.2.2
theorem fX12_memory {V : Vt} {o : Nat} (h : fX12 V o) : V.2.2.2 o 12 = some (o + 3) := h.2.2.2.1.1
theorem fX12_memory_l {V : Vt} {o : Nat} (h : fX12 V o) : o + 3 < V.1 := h.2.2.2.1.2.1
theorem fX12_memory_t {V : Vt} {o : Nat} (h : fX12 V o) : V.2.1 (o + 3) = 12 := h.2.2.2.1.2.2.1
theorem fX12_memory_n {V : Vt} {o : Nat} (h : fX12 V o) : V.2.2.1 (o + 3) = 1024 := h.2.2.2.1.2.2.2
theorem fX12_kind {V : Vt} {o : Nat} (h : fX12 V o) : V.2.2.2 o 15 = some (o + 4) := h.2.2.2.2.1.1
theorem fX12_kind_l {V : Vt} {o : Nat} (h : fX12 V o) : o + 4 < V.1 := h.2.2.2.2.1.2.1
theorem fX12_kind_t {V : Vt} {o : Nat} (h : fX12 V o) : V.2.1 (o + 4) = 12 := h.2.2.2.2.1.2.2.1
theorem fX12_kind_n {V : Vt} {o : Nat} (h : fX12 V o) : V.2.2.1 (o + 4) = 400 := h.2.2.2.2.1.2.2.2
theorem fX12_asker {V : Vt} {o : Nat} (h : fX12 V o) : V.2.2.2 o 16 = some (o + 5) := h.2.2.2.2.2.1.1
theorem fX12_asker_l {V : Vt} {o : Nat} (h : fX12 V o) : o + 5 < V.1 := h.2.2.2.2.2.1.2.1
theorem fX12_asker_t {V : Vt} {o : Nat} (h : fX12 V o) : V.2.1 (o + 5) = 12 := h.2.2.2.2.2.1.2.2.1
theorem fX12_asker_n {V : Vt} {o : Nat} (h : fX12 V o) : V.2.2.1 (o + 5) = 400 := h.2.2.2.2.2.1.2.2.2
theorem fX12_address {V : Vt} {o : Nat} (h : fX12 V o) : V.2.2.2 o 17 = some (o + 6) := h.2.2.2.2.2.2.1.1
theorem fX12_address_l {V : Vt} {o : Nat} (h : fX12 V o) : o + 6 < V.1 := h.2.2.2.2.2.2.1.2.1
theorem fX12_address_t {V : Vt} {o : Nat} (h : fX12 V o) : V.2.1 (o + 6) = 12 := h.2.2.2.2.2.2.1.2.2.1
theorem fX12_address_n {V : Vt} {o : Nat} (h : fX12 V o) : V.2.2.1 (o + 6) = 400 := h.2.2.2.2.2.2.1.2.2.2
theorem fX12_value {V : Vt} {o : Nat} (h : fX12 V o) : V.2.2.2 o 18 = some (o + 7) := h.2.2.2.2.2.2.2.1.1
theorem fX12_value_l {V : Vt} {o : Nat} (h : fX12 V o) : o + 7 < V.1 := h.2.2.2.2.2.2.2.1.2.1
theorem fX12_value_t {V : Vt} {o : Nat} (h : fX12 V o) : V.2.1 (o + 7) = 12 := h.2.2.2.2.2.2.2.1.2.2.1
theorem fX12_value_n {V : Vt} {o : Nat} (h : fX12 V o) : V.2.2.1 (o + 7) = 400 := h.2.2.2.2.2.2.2.1.2.2.2
theorem fX12_bits {V : Vt} {o : Nat} (h : fX12 V o) : V.2.2.2 o 19 = some (o + 8) := h.2.2.2.2.2.2.2.2.1.1
theorem fX12_bits_l {V : Vt} {o : Nat} (h : fX12 V o) : o + 8 < V.1 := h.2.2.2.2.2.2.2.2.1.2.1
theorem fX12_bits_t {V : Vt} {o : Nat} (h : fX12 V o) : V.2.1 (o + 8) = 12 := h.2.2.2.2.2.2.2.2.1.2.2.1
theorem fX12_bits_n {V : Vt} {o : Nat} (h : fX12 V o) : V.2.2.1 (o + 8) = 400 := h.2.2.2.2.2.2.2.2.1.2.2.2
theorem fX12_came {V : Vt} {o : Nat} (h : fX12 V o) : V.2.2.2 o 20 = some (o + 9) := h.2.2.2.2.2.2.2.2.2.1.1
theorem fX12_came_l {V : Vt} {o : Nat} (h : fX12 V o) : o + 9 < V.1 := h.2.2.2.2.2.2.2.2.2.1.2.1
theorem fX12_came_t {V : Vt} {o : Nat} (h : fX12 V o) : V.2.1 (o + 9) = 12 := h.2.2.2.2.2.2.2.2.2.1.2.2.1
theorem fX12_came_n {V : Vt} {o : Nat} (h : fX12 V o) : V.2.2.1 (o + 9) = 400 := h.2.2.2.2.2.2.2.2.2.1.2.2.2
theorem fX12_done {V : Vt} {o : Nat} (h : fX12 V o) : V.2.2.2 o 21 = some (o + 10) := h.2.2.2.2.2.2.2.2.2.2.1.1
theorem fX12_done_l {V : Vt} {o : Nat} (h : fX12 V o) : o + 10 < V.1 := h.2.2.2.2.2.2.2.2.2.2.1.2.1
theorem fX12_done_t {V : Vt} {o : Nat} (h : fX12 V o) : V.2.1 (o + 10) = 12 := h.2.2.2.2.2.2.2.2.2.2.1.2.2.1
theorem fX12_done_n {V : Vt} {o : Nat} (h : fX12 V o) : V.2.2.1 (o + 10) = 400 := h.2.2.2.2.2.2.2.2.2.2.1.2.2.2
theorem fX12_answer {V : Vt} {o : Nat} (h : fX12 V o) : V.2.2.2 o 22 = some (o + 11) := h.2.2.2.2.2.2.2.2.2.2.2.1.1
theorem fX12_answer_l {V : Vt} {o : Nat} (h : fX12 V o) : o + 11 < V.1 := h.2.2.2.2.2.2.2.2.2.2.2.1.2.1
theorem fX12_answer_t {V : Vt} {o : Nat} (h : fX12 V o) : V.2.1 (o + 11) = 12 := h.2.2.2.2.2.2.2.2.2.2.2.1.2.2.1
theorem fX12_answer_n {V : Vt} {o : Nat} (h : fX12 V o) : V.2.2.1 (o + 11) = 400 := h.2.2.2.2.2.2.2.2.2.2.2.1.2.2.2
theorem fX12_doneOf {V : Vt} {o : Nat} (h : fX12 V o) : V.2.2.2 o 23 = some (o + 12) := h.2.2.2.2.2.2.2.2.2.2.2.2.1.1
theorem fX12_doneOf_l {V : Vt} {o : Nat} (h : fX12 V o) : o + 12 < V.1 := h.2.2.2.2.2.2.2.2.2.2.2.2.1.2.1
theorem fX12_doneOf_t {V : Vt} {o : Nat} (h : fX12 V o) : V.2.1 (o + 12) = 12 := h.2.2.2.2.2.2.2.2.2.2.2.2.1.2.2.1
theorem fX12_doneOf_n {V : Vt} {o : Nat} (h : fX12 V o) : V.2.2.1 (o + 12) = 4 := h.2.2.2.2.2.2.2.2.2.2.2.2.1.2.2.2
theorem fX12_recentTick {V : Vt} {o : Nat} (h : fX12 V o) : V.2.2.2 o 27 = some (o + 13) := h.2.2.2.2.2.2.2.2.2.2.2.2.2.1.1
theorem fX12_recentTick_l {V : Vt} {o : Nat} (h : fX12 V o) : o + 13 < V.1 := h.2.2.2.2.2.2.2.2.2.2.2.2.2.1.2.1
theorem fX12_recentTick_t {V : Vt} {o : Nat} (h : fX12 V o) : V.2.1 (o + 13) = 12 := h.2.2.2.2.2.2.2.2.2.2.2.2.2.1.2.2.1
theorem fX12_recentTick_n {V : Vt} {o : Nat} (h : fX12 V o) : V.2.2.1 (o + 13) = 40 := h.2.2.2.2.2.2.2.2.2.2.2.2.2.1.2.2.2
theorem fX12_recentWhat {V : Vt} {o : Nat} (h : fX12 V o) : V.2.2.2 o 28 = some (o + 14) := h.2.2.2.2.2.2.2.2.2.2.2.2.2.2.1.1
theorem fX12_recentWhat_l {V : Vt} {o : Nat} (h : fX12 V o) : o + 14 < V.1 := h.2.2.2.2.2.2.2.2.2.2.2.2.2.2.1.2.1
theorem fX12_recentWhat_t {V : Vt} {o : Nat} (h : fX12 V o) : V.2.1 (o + 14) = 12 := h.2.2.2.2.2.2.2.2.2.2.2.2.2.2.1.2.2.1
theorem fX12_recentWhat_n {V : Vt} {o : Nat} (h : fX12 V o) : V.2.2.1 (o + 14) = 40 := h.2.2.2.2.2.2.2.2.2.2.2.2.2.2.1.2.2.2
theorem fX12_recentBank {V : Vt} {o : Nat} (h : fX12 V o) : V.2.2.2 o 29 = some (o + 15) := h.2.2.2.2.2.2.2.2.2.2.2.2.2.2.2.1.1
theorem fX12_recentBank_l {V : Vt} {o : Nat} (h : fX12 V o) : o + 15 < V.1 := h.2.2.2.2.2.2.2.2.2.2.2.2.2.2.2.1.2.1
theorem fX12_recentBank_t {V : Vt} {o : Nat} (h : fX12 V o) : V.2.1 (o + 15) = 12 := h.2.2.2.2.2.2.2.2.2.2.2.2.2.2.2.1.2.2.1
theorem fX12_recentBank_n {V : Vt} {o : Nat} (h : fX12 V o) : V.2.2.1 (o + 15) = 40 := h.2.2.2.2.2.2.2.2.2.2.2.2.2.2.2.1.2.2.2
theorem fX12_logTick {V : Vt} {o : Nat} (h : fX12 V o) : V.2.2.2 o 31 = some (o + 16) := h.2.2.2.2.2.2.2.2.2.2.2.2.2.2.2.2.1.1
theorem fX12_logTick_l {V : Vt} {o : Nat} (h : fX12 V o) : o + 16 < V.1 := h.2.2.2.2.2.2.2.2.2.2.2.2.2.2.2.2.1.2.1
theorem fX12_logTick_t {V : Vt} {o : Nat} (h : fX12 V o) : V.2.1 (o + 16) = 12 := h.2.2.2.2.2.2.2.2.2.2.2.2.2.2.2.2.1.2.2.1
theorem fX12_logTick_n {V : Vt} {o : Nat} (h : fX12 V o) : V.2.2.1 (o + 16) = 400 := h.2.2.2.2.2.2.2.2.2.2.2.2.2.2.2.2.1.2.2.2
theorem fX12_logForged {V : Vt} {o : Nat} (h : fX12 V o) : V.2.2.2 o 32 = some (o + 17) := h.2.2.2.2.2.2.2.2.2.2.2.2.2.2.2.2.2.1.1
theorem fX12_logForged_l {V : Vt} {o : Nat} (h : fX12 V o) : o + 17 < V.1 := h.2.2.2.2.2.2.2.2.2.2.2.2.2.2.2.2.2.1.2.1
theorem fX12_logForged_t {V : Vt} {o : Nat} (h : fX12 V o) : V.2.1 (o + 17) = 12 := h.2.2.2.2.2.2.2.2.2.2.2.2.2.2.2.2.2.1.2.2.1
theorem fX12_logForged_n {V : Vt} {o : Nat} (h : fX12 V o) : V.2.2.1 (o + 17) = 400 := h.2.2.2.2.2.2.2.2.2.2.2.2.2.2.2.2.2.1.2.2.2
theorem fX12_logWhat {V : Vt} {o : Nat} (h : fX12 V o) : V.2.2.2 o 33 = some (o + 18) := h.2.2.2.2.2.2.2.2.2.2.2.2.2.2.2.2.2.2.1.1
theorem fX12_logWhat_l {V : Vt} {o : Nat} (h : fX12 V o) : o + 18 < V.1 := h.2.2.2.2.2.2.2.2.2.2.2.2.2.2.2.2.2.2.1.2.1
theorem fX12_logWhat_t {V : Vt} {o : Nat} (h : fX12 V o) : V.2.1 (o + 18) = 12 := h.2.2.2.2.2.2.2.2.2.2.2.2.2.2.2.2.2.2.1.2.2.1
theorem fX12_logWhat_n {V : Vt} {o : Nat} (h : fX12 V o) : V.2.2.1 (o + 18) = 400 := h.2.2.2.2.2.2.2.2.2.2.2.2.2.2.2.2.2.2.1.2.2.2
theorem fX12_logBank {V : Vt} {o : Nat} (h : fX12 V o) : V.2.2.2 o 34 = some (o + 19) := h.2.2.2.2.2.2.2.2.2.2.2.2.2.2.2.2.2.2.2.1.1
theorem fX12_logBank_l {V : Vt} {o : Nat} (h : fX12 V o) : o + 19 < V.1 := h.2.2.2.2.2.2.2.2.2.2.2.2.2.2.2.2.2.2.2.1.2.1
theorem fX12_logBank_t {V : Vt} {o : Nat} (h : fX12 V o) : V.2.1 (o + 19) = 12 := h.2.2.2.2.2.2.2.2.2.2.2.2.2.2.2.2.2.2.2.1.2.2.1
theorem fX12_logBank_n {V : Vt} {o : Nat} (h : fX12 V o) : V.2.2.1 (o + 19) = 400 := h.2.2.2.2.2.2.2.2.2.2.2.2.2.2.2.2.2.2.2.1.2.2.2
theorem fX12_logPlace {V : Vt} {o : Nat} (h : fX12 V o) : V.2.2.2 o 35 = some (o + 20) := h.2.2.2.2.2.2.2.2.2.2.2.2.2.2.2.2.2.2.2.2.1.1
theorem fX12_logPlace_l {V : Vt} {o : Nat} (h : fX12 V o) : o + 20 < V.1 := h.2.2.2.2.2.2.2.2.2.2.2.2.2.2.2.2.2.2.2.2.1.2.1
theorem fX12_logPlace_t {V : Vt} {o : Nat} (h : fX12 V o) : V.2.1 (o + 20) = 12 := h.2.2.2.2.2.2.2.2.2.2.2.2.2.2.2.2.2.2.2.2.1.2.2.1
theorem fX12_logPlace_n {V : Vt} {o : Nat} (h : fX12 V o) : V.2.2.1 (o + 20) = 400 := h.2.2.2.2.2.2.2.2.2.2.2.2.2.2.2.2.2.2.2.2.1.2.2.2
theorem fX12_logAsk {V : Vt} {o : Nat} (h : fX12 V o) : V.2.2.2 o 36 = some (o + 21) := h.2.2.2.2.2.2.2.2.2.2.2.2.2.2.2.2.2.2.2.2.2.1.1
theorem fX12_logAsk_l {V : Vt} {o : Nat} (h : fX12 V o) : o + 21 < V.1 := h.2.2.2.2.2.2.2.2.2.2.2.2.2.2.2.2.2.2.2.2.2.1.2.1
theorem fX12_logAsk_t {V : Vt} {o : Nat} (h : fX12 V o) : V.2.1 (o + 21) = 12 := h.2.2.2.2.2.2.2.2.2.2.2.2.2.2.2.2.2.2.2.2.2.1.2.2.1
theorem fX12_logAsk_n {V : Vt} {o : Nat} (h : fX12 V o) : V.2.2.1 (o + 21) = 400 := h.2.2.2.2.2.2.2.2.2.2.2.2.2.2.2.2.2.2.2.2.2.1.2.2.2
theorem fX12_row0 {V : Vt} {o : Nat} (h : fX12 V o) : V.2.2.2 o 38 = some (o + 22) := h.2.2.2.2.2.2.2.2.2.2.2.2.2.2.2.2.2.2.2.2.2.2.1.1
theorem fX12_row0_l {V : Vt} {o : Nat} (h : fX12 V o) : o + 22 < V.1 := h.2.2.2.2.2.2.2.2.2.2.2.2.2.2.2.2.2.2.2.2.2.2.1.2.1
theorem fX12_row0_t {V : Vt} {o : Nat} (h : fX12 V o) : V.2.1 (o + 22) = 12 := h.2.2.2.2.2.2.2.2.2.2.2.2.2.2.2.2.2.2.2.2.2.2.1.2.2.1
theorem fX12_row0_n {V : Vt} {o : Nat} (h : fX12 V o) : V.2.2.1 (o + 22) = 12 := h.2.2.2.2.2.2.2.2.2.2.2.2.2.2.2.2.2.2.2.2.2.2.1.2.2.2
theorem fX12_kept {V : Vt} {o : Nat} (h : fX12 V o) : V.2.2.2 o 43 = some (o + 23) := h.2.2.2.2.2.2.2.2.2.2.2.2.2.2.2.2.2.2.2.2.2.2.2.1.1
theorem fX12_kept_l {V : Vt} {o : Nat} (h : fX12 V o) : o + 23 < V.1 := h.2.2.2.2.2.2.2.2.2.2.2.2.2.2.2.2.2.2.2.2.2.2.2.1.2.1
theorem fX12_kept_t {V : Vt} {o : Nat} (h : fX12 V o) : V.2.1 (o + 23) = 12 := h.2.2.2.2.2.2.2.2.2.2.2.2.2.2.2.2.2.2.2.2.2.2.2.1.2.2.1
theorem fX12_kept_n {V : Vt} {o : Nat} (h : fX12 V o) : V.2.2.1 (o + 23) = 400 := h.2.2.2.2.2.2.2.2.2.2.2.2.2.2.2.2.2.2.2.2.2.2.2.1.2.2.2
theorem fX12_plain {V : Vt} {o : Nat} (h : fX12 V o) : V.2.2.2 o 44 = some (o + 24) := h.2.2.2.2.2.2.2.2.2.2.2.2.2.2.2.2.2.2.2.2.2.2.2.2.1.1
theorem fX12_plain_l {V : Vt} {o : Nat} (h : fX12 V o) : o + 24 < V.1 := h.2.2.2.2.2.2.2.2.2.2.2.2.2.2.2.2.2.2.2.2.2.2.2.2.1.2.1
theorem fX12_plain_t {V : Vt} {o : Nat} (h : fX12 V o) : V.2.1 (o + 24) = 12 := h.2.2.2.2.2.2.2.2.2.2.2.2.2.2.2.2.2.2.2.2.2.2.2.2.1.2.2.1
theorem fX12_plain_n {V : Vt} {o : Nat} (h : fX12 V o) : V.2.2.1 (o + 24) = 1024 := h.2.2.2.2.2.2.2.2.2.2.2.2.2.2.2.2.2.2.2.2.2.2.2.2.1.2.2.2
theorem fX12_shelf {V : Vt} {o : Nat} (h : fX12 V o) : V.2.2.2 o 45 = some (o + 25) := h.2.2.2.2.2.2.2.2.2.2.2.2.2.2.2.2.2.2.2.2.2.2.2.2.2.1.1
theorem fX12_shelf_l {V : Vt} {o : Nat} (h : fX12 V o) : o + 25 < V.1 := h.2.2.2.2.2.2.2.2.2.2.2.2.2.2.2.2.2.2.2.2.2.2.2.2.2.1.2.1
theorem fX12_shelf_t {V : Vt} {o : Nat} (h : fX12 V o) : V.2.1 (o + 25) = 12 := h.2.2.2.2.2.2.2.2.2.2.2.2.2.2.2.2.2.2.2.2.2.2.2.2.2.1.2.2.1
theorem fX12_shelf_n {V : Vt} {o : Nat} (h : fX12 V o) : V.2.2.1 (o + 25) = 8 := h.2.2.2.2.2.2.2.2.2.2.2.2.2.2.2.2.2.2.2.2.2.2.2.2.2.1.2.2.2
theorem fX12_shelfSize {V : Vt} {o : Nat} (h : fX12 V o) : V.2.2.2 o 46 = some (o + 26) := h.2.2.2.2.2.2.2.2.2.2.2.2.2.2.2.2.2.2.2.2.2.2.2.2.2.2.1.1
theorem fX12_shelfSize_l {V : Vt} {o : Nat} (h : fX12 V o) : o + 26 < V.1 := h.2.2.2.2.2.2.2.2.2.2.2.2.2.2.2.2.2.2.2.2.2.2.2.2.2.2.1.2.1
theorem fX12_shelfSize_t {V : Vt} {o : Nat} (h : fX12 V o) : V.2.1 (o + 26) = 12 := h.2.2.2.2.2.2.2.2.2.2.2.2.2.2.2.2.2.2.2.2.2.2.2.2.2.2.1.2.2.1
theorem fX12_shelfSize_n {V : Vt} {o : Nat} (h : fX12 V o) : V.2.2.1 (o + 26) = 8 := h.2.2.2.2.2.2.2.2.2.2.2.2.2.2.2.2.2.2.2.2.2.2.2.2.2.2.1.2.2.2
theorem fX12_shelfAsk {V : Vt} {o : Nat} (h : fX12 V o) : V.2.2.2 o 47 = some (o + 27) := h.2.2.2.2.2.2.2.2.2.2.2.2.2.2.2.2.2.2.2.2.2.2.2.2.2.2.2.1.1
theorem fX12_shelfAsk_l {V : Vt} {o : Nat} (h : fX12 V o) : o + 27 < V.1 := h.2.2.2.2.2.2.2.2.2.2.2.2.2.2.2.2.2.2.2.2.2.2.2.2.2.2.2.1.2.1
theorem fX12_shelfAsk_t {V : Vt} {o : Nat} (h : fX12 V o) : V.2.1 (o + 27) = 12 := h.2.2.2.2.2.2.2.2.2.2.2.2.2.2.2.2.2.2.2.2.2.2.2.2.2.2.2.1.2.2.1
theorem fX12_shelfAsk_n {V : Vt} {o : Nat} (h : fX12 V o) : V.2.2.1 (o + 27) = 8 := h.2.2.2.2.2.2.2.2.2.2.2.2.2.2.2.2.2.2.2.2.2.2.2.2.2.2.2.1.2.2.2
theorem fX12_shelfRow {V : Vt} {o : Nat} (h : fX12 V o) : V.2.2.2 o 48 = some (o + 28) := h.2.2.2.2.2.2.2.2.2.2.2.2.2.2.2.2.2.2.2.2.2.2.2.2.2.2.2.2.1.1
theorem fX12_shelfRow_l {V : Vt} {o : Nat} (h : fX12 V o) : o + 28 < V.1 := h.2.2.2.2.2.2.2.2.2.2.2.2.2.2.2.2.2.2.2.2.2.2.2.2.2.2.2.2.1.2.1
theorem fX12_shelfRow_t {V : Vt} {o : Nat} (h : fX12 V o) : V.2.1 (o + 28) = 12 := h.2.2.2.2.2.2.2.2.2.2.2.2.2.2.2.2.2.2.2.2.2.2.2.2.2.2.2.2.1.2.2.1
theorem fX12_shelfRow_n {V : Vt} {o : Nat} (h : fX12 V o) : V.2.2.1 (o + 28) = 480 := h.2.2.2.2.2.2.2.2.2.2.2.2.2.2.2.2.2.2.2.2.2.2.2.2.2.2.2.2.1.2.2.2
theorem fX12_between {V : Vt} {o : Nat} (h : fX12 V o) : V.2.2.2 o 49 = some (o + 29) := h.2.2.2.2.2.2.2.2.2.2.2.2.2.2.2.2.2.2.2.2.2.2.2.2.2.2.2.2.2.1
theorem fX12_between_l {V : Vt} {o : Nat} (h : fX12 V o) : o + 29 < V.1 := h.2.2.2.2.2.2.2.2.2.2.2.2.2.2.2.2.2.2.2.2.2.2.2.2.2.2.2.2.2.2.1
theorem fX12_between_t {V : Vt} {o : Nat} (h : fX12 V o) : V.2.1 (o + 29) = 12 := h.2.2.2.2.2.2.2.2.2.2.2.2.2.2.2.2.2.2.2.2.2.2.2.2.2.2.2.2.2.2.2.1
theorem fX12_between_n {V : Vt} {o : Nat} (h : fX12 V o) : V.2.2.1 (o + 29) = 60 := h.2.2.2.2.2.2.2.2.2.2.2.2.2.2.2.2.2.2.2.2.2.2.2.2.2.2.2.2.2.2.2.2

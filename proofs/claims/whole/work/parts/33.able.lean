/-! ===== who is able, what can be sung ===== -/
def al (p : Nat → Bool) : Nat → Nat → Bool
  | 0, _ => true
  | m + 1, j => p j && al p m (j + 1)
theorem al_iff {p : Nat → Bool} : ∀ {m j : Nat}, al p m j = true ↔ ∀ i, j ≤ i → i < j + m → p i = true
  | 0, j => ⟨fun _ i h1 h2 => by omega, fun _ => rfl⟩
  | m + 1, j => by
    rw [al, Bool.and_eq_true, al_iff (m := m)]
    constructor
    · intro h i h1 h2
      by_cases e : i = j
      · subst e; exact h.1
      · exact h.2 i (by omega) (by omega)
    · intro h
      exact ⟨h j (by omega) (by omega), fun i h1 h2 => h i (by omega) (by omega)⟩
theorem al_shift {p : Nat → Bool} {k : Nat} : ∀ {m j : Nat}, al (fun i => p (k + i)) m j = al p m (k + j)
  | 0, _ => rfl
  | m + 1, j => by rw [al, al, al_shift (m := m)]; rfl
theorem al_congr {p q : Nat → Bool} : ∀ {m j : Nat}, (∀ i, j ≤ i → i < j + m → p i = q i) → al p m j = al q m j
  | 0, _, _ => rfl
  | m + 1, j, h => by rw [al, al, h j (by omega) (by omega), al_congr (fun i h1 h2 => h i (by omega) (by omega))]
/-- who of a set can sing a row -/
def ab (A : sA) (x : Int32) (r : Nat) (u : Int) : Int32 := bs (fun s => bt x s && fu A r u s) 14
theorem lo14_ab {A : sA} {x : Int32} {r : Nat} {u : Int} : lo14 (ab A x r u) := lo14_bs (by omega)
theorem bt_ab {A : sA} {x : Int32} {r i : Nat} {u : Int} (hi : i < 14) : bt (ab A x r u) i = (bt x i && fu A r u i) := by
  unfold ab
  rw [bt_bs (by omega) (by omega), decide_eq_true hi, Bool.true_and]
theorem fu_n {A : sA} {r s : Nat} {u : Int} (h : A 0 0 ≤ s) : fu A r u s = false := by
  unfold fu
  rw [decide_eq_false (by omega)]
  rfl
theorem fu_0 {A : sA} {r s : Nat} {u : Int} (h : A 6 r = 0) : fu A r u s = false := by
  unfold fu
  rw [decide_eq_false (show ¬ 0 < A 6 r by omega)]
  simp
theorem bs_congr {p q : Nat → Bool} : ∀ {n : Nat}, (∀ i, i < n → p i = q i) → bs p n = bs q n
  | 0, _ => rfl
  | n + 1, h => by rw [bs, bs, bs_congr (fun i hi => h i (by omega)), h n (by omega)]
theorem bs_ext {p : Nat → Bool} : ∀ {n k : Nat}, (∀ i, n ≤ i → i < n + k → p i = false) → bs p (n + k) = bs p n
  | n, 0, _ => rfl
  | n, k + 1, h => by
    rw [show n + (k + 1) = (n + k) + 1 by omega, bs, h (n + k) (by omega) (by omega)]
    exact bs_ext (fun i h1 h2 => h i h1 (by omega))
theorem bs_to {p : Nat → Bool} {n N : Nat} (h : n ≤ N) (hp : ∀ i, n ≤ i → i < N → p i = false) : bs p N = bs p n := by
  obtain ⟨k, rfl⟩ := Nat.le.dest h
  exact bs_ext hp
theorem bs_false {p : Nat → Bool} {n : Nat} (h : ∀ i, i < n → p i = false) : bs p n = 0 := by
  have := bs_ext (p := p) (n := 0) (k := n) (fun i _ h2 => h i (by omega))
  rw [Nat.zero_add] at this
  exact this
theorem sn_q1 {α γ : Type} {a : α} {f : α → Option γ} : sd_q1 (some a) f = f a := rfl
theorem sn_q2 {α β γ : Type} {a : α} {b : β} {f : α → β → Option γ} : sd_q2 (some (a, b)) f = f a b := rfl
theorem sn_lt {α β : Type} {e : α} {f : α → β} : sd_lt e f = f e := rfl
theorem sn_mod {a b : Nat} (ha : a < 2 ^ 31) (hb : b < 2 ^ 31) (h0 : 0 < b) : sd_mod (nI a) (nI b) = nI (a % b) := by
  unfold sd_mod
  have hd : nI a / nI b = nI (a / b) := (Int32.ofNat_div ha hb).symm
  have h2 : a / b * b ≤ a := Nat.div_mul_le_self a b
  rw [hd, sn_mul, sn_sub h2]
  congr 1
  have := Nat.div_add_mod a b
  rw [Nat.mul_comm] at this
  omega
theorem mo_ableOf {A : sA} {I : sm_MI} (hw : wA A) (hm : mA A I) {r : Nat} {x u : Int32} (hr : r < 20) (hu : -1000 ≤ u.toInt ∧ u.toInt ≤ 1000) : F_Mo_ableOf x (nI r) u I = some (ab A x r u.toInt) := by
  have hw0 := hw
  have hm0 := hm
  obtain ⟨w1, w2, w3, w4, w5, w6⟩ := hw
  obtain ⟨m1, m2, m3, m4, m5⟩ := hm
  obtain ⟨q1, q2⟩ := m5 r hr
  obtain ⟨v1, -⟩ := w6 r hr
  unfold F_Mo_ableOf
  rw [sn_gu (sn_in' hr (by omega)), nI_clamp (by omega), q1]
  by_cases hq : A 6 r = 0
  · rw [hq, if_neg (fun z => z rfl)]
    unfold ab
    rw [bs_false (fun i _ => by rw [fu_0 hq, Bool.and_false])]
  · rw [if_pos (nI_ne0 (by omega) (by omega))]
    have h := (lp_it (fun f j a => F_Mo_ableOf_11 I f x (nI r) u a j) (fun j a => if (bt x j && fu A r u.toInt j) then a ||| b1 j else a) (fun a => a) (A 0 0) (fun _ _ => True) ?_ ?_ sd_fu 0 (by rw [sd_fu_val]; omega) trivial).1
    · rw [itr_bs] at h
      have e : ab A x r u.toInt = bs (fun s => bt x s && fu A r u.toInt s) (A 0 0) := bs_to w1 (fun i h1 h2 => by rw [fu_n h1, Bool.and_false])
      rw [e]
      exact h
    · intro f a _
      show F_Mo_ableOf_11B (F_Mo_ableOf_11 I f) x (nI r) u a (nI (A 0 0)) I = _
      unfold F_Mo_ableOf_11B
      rw [m1, if_pos (Int32.le_refl _)]
    · intro f j a hj _
      refine ⟨trivial, ?_⟩
      show F_Mo_ableOf_11B (F_Mo_ableOf_11 I f) x (nI r) u a (nI j) I = F_Mo_ableOf_11 I f x (nI r) u (if (bt x j && fu A r u.toInt j) then a ||| b1 j else a) (nI (j + 1))
      unfold F_Mo_ableOf_11B
      obtain ⟨-, e2, -, -, -⟩ := m4 j hj
      obtain ⟨-, f2, -, -, -⟩ := w5 j hj
      rw [m1, if_neg (nI_ge hj (by omega)), nI_1]
      by_cases hb : bt x j = true
      · rw [if_neg (sn_nn ((bt_t1 x (by omega)).mpr hb)), sn_gu (sn_in' (by omega) (by omega)), sn_gu (by decide), nI_clamp (by omega), e2, show sd_mod (nI r) 4 = nI (r % 4) from sn_mod (b := 4) (by omega) (by omega) (by omega)]
        by_cases hp : A 2 j = r % 4
        · rw [if_neg (sn_nn (by rw [hp])), mo_hasAll hw0 hm0 hj hr (by omega) hu]
          have hf : fu A r u.toInt j = (List.range (A 7 r)).all fun i => decide ((A 3 j : Int) ≤ A 8 (12 * r + i) + u.toInt) && decide ((A 8 (12 * r + i) : Int) + u.toInt ≤ A 4 j) := by
            unfold fu
            rw [decide_eq_true hj, decide_eq_true (show 0 < A 6 r by omega), decide_eq_true hp]
            rfl
          rw [hb, Bool.true_and, hf]
          cases hall : (List.range (A 7 r)).all fun i => decide ((A 3 j : Int) ≤ A 8 (12 * r + i) + u.toInt) && decide ((A 8 (12 * r + i) : Int) + u.toInt ≤ A 4 j)
          · show F_Mo_ableOf_11 I f x (nI r) u (a ||| 0) (nI (j + 1)) = _
            rw [or0]
            rfl
          · rfl
        · have hf : fu A r u.toInt j = false := by unfold fu; rw [decide_eq_false hp]; simp
          rw [if_pos (fun z => hp ((nI_eq (by omega) (by omega)).mp z)), hf, Bool.and_false, or0]
          rfl
      · rw [if_pos (fun z => hb ((bt_t1 x (by omega)).mp z)), or0]
        have : bt x j = false := by simpa using hb
        rw [this, Bool.false_and]
        rfl
/-- can a piece be sung -/
def nr (A : sA) (p : Nat) : Bool := al (fun r => decide (A 6 r = 0)) 4 (4 * p)
def cs (A : sA) (x : Int32) (p : Nat) (u : Int) : Bool := !nr A p && al (fun r => decide (A 6 r ≤ pc (ab A x r u))) 4 (4 * p)
theorem mo_hasRows {A : sA} {I : sm_MI} (hw : wA A) (hm : mA A I) {p : Nat} (hp : p < 5) : F_Mo_hasRows (nI p) I = some (if nr A p then 0 else 1) := by
  obtain ⟨w1, w2, w3, w4, w5, w6⟩ := hw
  obtain ⟨m1, m2, m3, m4, m5⟩ := hm
  have e0 := w6 (4 * p) (by omega)
  have e1 := w6 (4 * p + 1) (by omega)
  have e2 := w6 (4 * p + 2) (by omega)
  have e3 := w6 (4 * p + 3) (by omega)
  unfold F_Mo_hasRows
  rw [show (4 : Int32) * nI p = nI (4 * p) from by rw [show (4 : Int32) = nI 4 from rfl, sn_mul], show nI (4 * p) + 1 = nI (4 * p + 1) from nI_1 _, show nI (4 * p) + 2 = nI (4 * p + 2) from nI_add _ 2, show nI (4 * p) + 3 = nI (4 * p + 3) from nI_add _ 3,
    sn_gu (sn_in' (by omega) (by omega)), sn_gu (sn_in' (by omega) (by omega)), sn_gu (sn_in' (by omega) (by omega)), sn_gu (sn_in' (by omega) (by omega)), nI_clamp (by omega), nI_clamp (by omega), nI_clamp (by omega), nI_clamp (by omega),
    (m5 _ (show 4 * p < 20 by omega)).1, (m5 _ (show 4 * p + 1 < 20 by omega)).1, (m5 _ (show 4 * p + 2 < 20 by omega)).1, (m5 _ (show 4 * p + 3 < 20 by omega)).1, nI_add, nI_add, nI_add]
  have h0 := e0.1
  have h1 := e1.1
  have h2 := e2.1
  have h3 := e3.1
  have key : nr A p = true ↔ A 6 (4 * p) + A 6 (4 * p + 1) + A 6 (4 * p + 2) + A 6 (4 * p + 3) = 0 := by
    unfold nr
    simp only [al, Bool.and_eq_true, decide_eq_true_eq, Bool.and_true, Nat.add_assoc, Nat.reduceAdd]
    omega
  by_cases hz : nr A p = true
  · rw [if_pos hz, key.mp hz, if_pos (by decide)]
  · have : 0 < A 6 (4 * p) + A 6 (4 * p + 1) + A 6 (4 * p + 2) + A 6 (4 * p + 3) := by
      rcases Nat.eq_zero_or_pos (A 6 (4 * p) + A 6 (4 * p + 1) + A 6 (4 * p + 2) + A 6 (4 * p + 3)) with z | z
      · exact absurd (key.mpr z) hz
      · exact z
    rw [if_neg hz, if_neg (nI_nle this (by omega))]
theorem lpr_al {b : Nat → Bool} : ∀ {m j : Nat}, lpr (fun j (a : Unit) => if b j then .inl a else .inr (0 : Int32)) (fun _ => 1) m j () = if al b m j then 1 else 0
  | 0, _ => rfl
  | m + 1, j => by
    rw [lpr, al]
    cases hb : b j
    · rfl
    · rw [if_pos rfl, Bool.true_and]; exact lpr_al
theorem pc_le (x : Int32) : pc x ≤ 14 := cn_le _ _
theorem mo_canBeSung {A : sA} {I : sm_MI} (hw : wA A) (hm : mA A I) {p : Nat} {x u : Int32} (hp : p < 5) (hu : -1000 ≤ u.toInt ∧ u.toInt ≤ 1000) : F_Mo_canBeSung x (nI p) u I = some (if cs A x p u.toInt then 1 else 0) := by
  unfold F_Mo_canBeSung
  rw [mo_hasRows hw hm hp]
  cases hn : nr A p
  · show sd_lt (4 * nI p) (fun a2 => F_Mo_canBeSung_10 I sd_fu x (nI p) u a2) = _
    have h := lp_gen (fun f j (_ : Unit) => F_Mo_canBeSung_10 I f x (nI p) u j) (fun j a => if decide (A 6 j ≤ pc (ab A x j u.toInt)) then .inl a else .inr (0 : Int32)) (fun _ => 1) (4 * p + 4) (fun _ _ => True) ?_ ?_ 4 (4 * p) sd_fu () (by omega) (by rw [sd_fu_val]; omega) trivial
    · rw [lpr_al (b := fun j => decide (A 6 j ≤ pc (ab A x j u.toInt)))] at h
      unfold cs
      rw [hn, Bool.not_false, Bool.true_and]
      unfold sd_lt
      rw [show (4 : Int32) * nI p = nI (4 * p) from by rw [show (4 : Int32) = nI 4 from rfl, sn_mul]]
      exact h
    · intro f a _
      show F_Mo_canBeSung_10B (F_Mo_canBeSung_10 I f) x (nI p) u (nI (4 * p + 4)) I = _
      unfold F_Mo_canBeSung_10B
      rw [show (4 : Int32) * nI p + 4 = nI (4 * p + 4) from by rw [show (4 : Int32) = nI 4 from rfl, sn_mul, nI_add], if_pos (Int32.le_refl _)]
    · intro f j a hj _
      have hj2 : j < 20 := by omega
      have hw6 := (hw.2.2.2.2.2 j hj2).1
      have hpc := pc_le (ab A x j u.toInt)
      have hc : F_Mo_canBeSung_10 I (f + 1) x (nI p) u (nI j) = if decide (A 6 j ≤ pc (ab A x j u.toInt)) then F_Mo_canBeSung_10 I f x (nI p) u (nI (j + 1)) else some 0 := by
        show F_Mo_canBeSung_10B (F_Mo_canBeSung_10 I f) x (nI p) u (nI j) I = _
        unfold F_Mo_canBeSung_10B
        rw [show (4 : Int32) * nI p + 4 = nI (4 * p + 4) from by rw [show (4 : Int32) = nI 4 from rfl, sn_mul, nI_add], if_neg (nI_ge hj (by omega)), mo_ableOf hw hm hj2 hu]
        rw [sn_q1, mo_bits, sn_q1, sn_gu (sn_in' hj2 (by omega)), nI_clamp (by omega), (hm.2.2.2.2 j hj2).1, nI_1]
        by_cases h : A 6 j ≤ pc (ab A x j u.toInt)
        · rw [if_pos (nI_le h (by omega)), decide_eq_true h, if_pos rfl]
        · rw [if_neg (nI_ge (by omega) (by omega)), decide_eq_false h, if_neg (by decide)]
      refine ⟨fun a' e => ⟨trivial, ?_⟩, fun z e => ?_⟩
      · rw [hc]
        split at e
        · rename_i hh; rw [if_pos hh]
        · cases e
      · rw [hc]
        split at e
        · cases e
        · rename_i hh; rw [if_neg hh]; cases e; rfl
  · unfold cs
    rw [hn]
    rfl
theorem cs_m {A : sA} (hw : wA A) {x : Int32} {p : Nat} {u : Int} (hp : A 0 1 ≤ p) (h5 : p < 5) : cs A x p u = false := by
  have : nr A p = true := by
    unfold nr
    rw [al_iff]
    intro i h1 h2
    have h3 := hw.2.2.2.2.2 i (by omega)
    rcases Nat.eq_zero_or_pos (A 6 i) with z | z
    · exact decide_eq_true z
    · have := (h3.2.2.1 z).1
      omega
  unfold cs
  rw [this]
  rfl
/-- the pieces that can be sung -/
def sg (A : sA) (x : Int32) : Int32 := bs (fun p => cs A x p 0) 5
theorem mo_sungBy {A : sA} {I : sm_MI} (hw : wA A) (hm : mA A I) {x : Int32} : F_Mo_sungBy x I = some (sg A x) := by
  have hm2 := hm.2.1
  have w2 := hw.2.1
  have h := (lp_it (fun f j a => F_Mo_sungBy_4 I f x a j) (fun j a => if cs A x j 0 then a ||| b1 j else a) (fun a => a) (A 0 1) (fun _ _ => True) ?_ ?_ sd_fu 0 (by rw [sd_fu_val]; omega) trivial).1
  · rw [itr_bs] at h
    unfold sg
    rw [bs_to (n := A 0 1) w2 (fun i h1 h2 => cs_m hw h1 h2)]
    exact h
  · intro f a _
    show F_Mo_sungBy_4B (F_Mo_sungBy_4 I f) x a (nI (A 0 1)) I = _
    unfold F_Mo_sungBy_4B
    rw [hm2, if_pos (Int32.le_refl _)]
  · intro f j a hj _
    refine ⟨trivial, ?_⟩
    show F_Mo_sungBy_4B (F_Mo_sungBy_4 I f) x a (nI j) I = F_Mo_sungBy_4 I f x (if cs A x j 0 then a ||| b1 j else a) (nI (j + 1))
    unfold F_Mo_sungBy_4B
    rw [hm2, if_neg (nI_ge hj (by omega)), mo_canBeSung hw hm (by omega) (by decide), nI_1, show (0 : Int32).toInt = 0 from rfl]
    cases cs A x j 0
    · show F_Mo_sungBy_4 I f x (a ||| 0) (nI (j + 1)) = _
      rw [or0]
      rfl
    · rfl

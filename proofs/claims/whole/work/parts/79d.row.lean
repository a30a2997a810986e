/-! ===== the row's line ===== -/
def rwA (A : sA) (r v c : Nat) (nt : Nat → Nat) : sA := fun x y => if x = 6 then (if y = r then v else A 6 y) else if x = 7 then (if y = r then c else A 7 y) else if x = 8 then (if 12 * r ≤ y ∧ y < 12 * r + 12 then nt (y - 12 * r) else A 8 y) else A x y
def isn (κ : Nat) : Bool := decide (10000 ≤ κ) || decide (κ = 31)
theorem isn_iff {κ : Nat} : isn κ = true ↔ 10000 ≤ κ ∨ κ = 31 := by unfold isn; simp
theorem c_atNum {κ : Nat} {C : sm_MI} (h : C 3 2 = nI κ) (hκ : κ < 20000) : F_Reader_atNumber C = some (bI (isn κ)) := by
  unfold F_Reader_atNumber
  rw [h]
  by_cases e1 : 10000 ≤ κ
  · rw [if_pos (show (10000 : Int32) ≤ nI κ from nI_le (a := 10000) e1 (by omega)), isn_iff.mpr (Or.inl e1)]; rfl
  · rw [if_neg (show ¬ (10000 : Int32) ≤ nI κ from nI_ge (b := 10000) (by omega) (by omega))]
    by_cases e2 : κ = 31
    · rw [isn_iff.mpr (Or.inr e2), e2, if_neg (sn_nn (show nI 31 = 31 from rfl))]; rfl
    · rw [show isn κ = false from Bool.eq_false_iff.mpr (fun z => by have := isn_iff.mp z; omega), if_pos (show ¬ nI κ = 31 from fun z => e2 ((nI_eq (b := 31) (by omega) (by omega)).mp z))]; rfl
section LN
variable {b : Nat → Nat} {n k u a d : Nat} {A : sA} {R : Nat → List Nat} {ev : Bool} {C C' C2 M M' M2 : sm_MI} {J J' : sm_MJ}
theorem so_num (h : tok b n k M J) : (M 61 21 = 2) ↔ isn (kk b n k) = true := by
  have hs := so_lt (q := kk b n k)
  rw [h.so, isn_iff]
  constructor
  · intro z
    have z := (nI_eq (b := 2) (by omega) (by omega)).mp z
    unfold so at z
    by_cases e1 : kk b n k < 25
    · rw [if_pos e1] at z; omega
    rw [if_neg e1] at z
    by_cases e2 : kk b n k = 31
    · exact Or.inr e2
    rw [if_neg e2] at z
    by_cases e3 : kk b n k = 32
    · rw [if_pos e3] at z; omega
    rw [if_neg e3] at z
    by_cases e4 : kk b n k = 33
    · rw [if_pos e4] at z; omega
    rw [if_neg e4] at z
    by_cases e5 : kk b n k < 10000
    · rw [if_pos e5] at z; omega
    omega
  · rintro (z | z)
    · unfold so; rw [if_neg (by omega), if_neg (by omega), if_neg (by omega), if_neg (by omega), if_neg (by omega)]; rfl
    · rw [z]; rfl
/-- a row of which so many notes were read -/
def rwi (b : Nat → Nat) (n d r i k : Nat) (nt : Nat → Nat) (Cb Mb C M : sm_MI) (J : sm_MJ) : Prop := (ck b n k C ∧ mk b n k M J ∧ k ≤ 700) ∧
  ((∀ j, j ≠ 3 → j ≠ d + 8 → C j = Cb j) ∧ C 3 4 = Cb 3 4 ∧ (∀ x, ¬ (12 * r ≤ x ∧ x < 12 * r + 12) → C (d + 8) x = Cb (d + 8) x) ∧ ∀ j, j < i → C (d + 8) (12 * r + j) = nI (nt j)) ∧
  ((∀ j, j ≠ 61 → j ≠ 80 → j ≠ 81 → M j = Mb j) ∧ (∀ j, (j < 16 ∨ j = 18 ∨ j = 19 ∨ 25 < j) → M 61 j = Mb 61 j) ∧ (∀ x, x ≠ r → M 80 x = Mb 80 x) ∧ M 80 r = nI i ∧ (∀ x, ¬ (12 * r ≤ x ∧ x < 12 * r + 12) → M 81 x = Mb 81 x) ∧ ∀ j, j < i → M 81 (12 * r + j) = nI (nt j)) ∧ ∀ j, j < i → nt j ≤ 48
theorem l_notes {r v : Nat} {Cb Mb : sm_MI} {Jb : sm_MJ} (hd : d = 21 ∨ d = 41) (hr : r < 20) : ∀ m i k nt C M J f1 f2, i + m = 12 → m + 2 < f1 → m + 2 < f2 → jsm Jb J → rwi b n d r i k nt Cb Mb C M J →
    ∃ q C' M' J', F_Reader_readRow_51 d f1 (nI r) (nI i) C = some (q, C') ∧ F_Mo_readsRow_44 f2 (nI r) (nI v) (if i = 0 ∨ isn (kk b n k) = true then 1 else 0) M J = some (M', J') ∧ jsm Jb J' ∧ (fC d Cb C' ∧ fM Mb M') ∧
      ((q = 1 ∧ ∃ c k' nt' C1 M1, 1 ≤ c ∧ c ≤ 12 ∧ k ≤ k' ∧ rwi b n d r c k' nt' Cb Mb C1 M1 J' ∧ C' = sd_up C1 (d + 7) r (nI c) ∧ M' = sd_up M1 79 r (nI v)) ∨ (q = 0 ∧ ∃ e k', k' ≤ 701 ∧ cbad e k' C' ∧ mbad b n e k' M')) := by
  intro m
  have fcb : ∀ {r i k nt C M J}, rwi b n d r i k nt Cb Mb C M J → fC d Cb C ∧ fM Mb M := fun h => ⟨fun j h1 h2 => h.2.1.1 j h1 (by omega), fun j hj => h.2.2.1.1 j (by omega) (by omega) (by omega), fun j hj => h.2.2.1.2.1 j (by omega)⟩
  have stop : ∀ (i k : Nat) (nt : Nat → Nat) (C M : sm_MI) (J : sm_MJ) (f2 : Nat), 1 ≤ i → i ≤ 12 → jsm Jb J → rwi b n d r i k nt Cb Mb C M J → isn (kk b n k) = false → ∃ q C' M' J', F_Reader_readRow_78 d (nI r) (nI i) C = some (q, C') ∧ F_Mo_readsRow_44 (f2 + 1) (nI r) (nI v) (if i = 0 ∨ isn (kk b n k) = true then 1 else 0) M J = some (M', J') ∧ jsm Jb J' ∧ (fC d Cb C' ∧ fM Mb M') ∧
      ((q = 1 ∧ ∃ c k' nt' C1 M1, 1 ≤ c ∧ c ≤ 12 ∧ k ≤ k' ∧ rwi b n d r c k' nt' Cb Mb C1 M1 J' ∧ C' = sd_up C1 (d + 7) r (nI c) ∧ M' = sd_up M1 79 r (nI v)) ∨ (q = 0 ∧ ∃ e k', k' ≤ 701 ∧ cbad e k' C' ∧ mbad b n e k' M')) := by
    intro i k nt C M J f2 hi hi2 hj h hn
    have hc7 : ck b n k (sd_up C (d + 7) r (nI i)) := ck_up h.1.1 (by omega)
    have an := c_atNum hc7.2.2 hc7.lt
    rw [hn] at an
    refine ⟨1, _, _, J, ?_, ?_, hj, ⟨(fcb h).1.up (by omega), (fcb h).2.up (by omega)⟩, Or.inl ⟨rfl, i, k, nt, C, M, hi, hi2, Nat.le_refl _, h, rfl, rfl⟩⟩
    · unfold F_Reader_readRow_78
      rw [sn_gu (sn_in' hr (by omega)), nI_clamp (by omega), y_lt, q1_of an, if_pos (show bI false = 0 from rfl)]
    · have hu : ∀ x, F_Mo_readsRow_44 (f2 + 1) (nI r) (nI v) x M J = F_Mo_readsRow_44B (F_Mo_readsRow_44 f2) (nI r) (nI v) x M J := fun _ => rfl
      rw [hu, hn, if_neg (show ¬ (i = 0 ∨ false = true) by simp; omega)]
      unfold F_Mo_readsRow_44B F_Mo_readsRow_100
      rw [if_pos rfl, sn_gu (sn_in' hr (by omega)), nI_clamp (by omega), y_lt]
  induction m with
  | zero =>
    intro i k nt C M J f1 f2 hi hf1 hf2 hj h
    obtain ⟨f1, rfl⟩ : ∃ g, f1 = g + 1 := ⟨f1 - 1, by omega⟩
    obtain ⟨f2, rfl⟩ : ∃ g, f2 = g + 1 := ⟨f2 - 1, by omega⟩
    obtain rfl : i = 12 := by omega
    have hu1 : F_Reader_readRow_51 d (f1 + 1) (nI r) (nI 12) C = F_Reader_readRow_51B d (F_Reader_readRow_51 d f1) (nI r) (nI 12) C := rfl
    have e1 : F_Reader_readRow_51 d (f1 + 1) (nI r) (nI 12) C = F_Reader_readRow_78 d (nI r) (nI 12) C := by
      rw [hu1]; unfold F_Reader_readRow_51B; rw [if_pos (show (12 : Int32) ≤ nI 12 by decide)]
    cases hn : isn (kk b n k)
    · rw [e1]
      have := stop 12 k nt C M J f2 (by omega) (by omega) hj h hn
      rw [hn] at this
      exact this
    · have hc7 : ck b n k (sd_up C (d + 7) r (nI 12)) := ck_up h.1.1 (by omega)
      have an := c_atNum hc7.2.2 hc7.lt
      rw [hn] at an
      obtain ⟨M1, w1, w2, w3⟩ := mk_wrong (e := 2) h.1.2.1 (by omega)
      refine ⟨0, sd_up (sd_up C (d + 7) r (nI 12)) 3 7 (nI 2), M1, J, ?_, ?_, hj, ⟨((fcb h).1.up (by omega)).up (by omega), (fcb h).2.trans w3.fM⟩, Or.inr ⟨rfl, 2, k, by have := h.1.2.2; omega, cbad_f hc7, w2⟩⟩
      · rw [e1]
        unfold F_Reader_readRow_78
        rw [sn_gu (sn_in' hr (by omega)), nI_clamp (by omega), y_lt, q1_of an, if_neg (show ¬ bI true = 0 by decide), q2_of (show F_Reader_fail 2 _ = _ from c_fail (e := 2)), if_pos rfl]
      · have hu : ∀ x, F_Mo_readsRow_44 (f2 + 1) (nI r) (nI v) x M J = F_Mo_readsRow_44B (F_Mo_readsRow_44 f2) (nI r) (nI v) x M J := fun _ => rfl
        rw [hu, if_pos (Or.inr rfl)]
        unfold F_Mo_readsRow_44B F_Mo_readsRow_62
        rw [if_neg (show ¬ (1 : Int32) = 0 by decide), q1_of h.1.2.1.good, if_neg (show ¬ (1 : Int32) = 0 by decide), sn_gu (sn_in' hr (by omega)), nI_clamp (by omega), h.2.2.1.2.2.2.1, if_neg (sn_nn (show nI 12 = 12 from rfl)), if_neg (sn_nn ((so_num h.1.2.1.1).mpr hn)), q1_of (show F_Mo_wrong 2 M = _ from w1), q3_of (m_num0 w2), q1_of w2.bad, if_neg (sn_nn rfl)]
  | succ m ih =>
    intro i k nt C M J f1 f2 hi hf1 hf2 hj h
    obtain ⟨f1, rfl⟩ : ∃ g, f1 = g + 1 := ⟨f1 - 1, by omega⟩
    obtain ⟨f2, rfl⟩ : ∃ g, f2 = g + 1 := ⟨f2 - 1, by omega⟩
    have hu1 : F_Reader_readRow_51 d (f1 + 1) (nI r) (nI i) C = F_Reader_readRow_51B d (F_Reader_readRow_51 d f1) (nI r) (nI i) C := rfl
    by_cases hgo : i = 0 ∨ isn (kk b n k) = true
    · have e1 : F_Reader_readRow_51 d (f1 + 1) (nI r) (nI i) C = F_Reader_readRow_59 d (F_Reader_readRow_51 d f1) (nI r) (nI i) C := by
        rw [hu1]; unfold F_Reader_readRow_51B
        rw [if_neg (show ¬ (12 : Int32) ≤ nI i from nI_ge (b := 12) (by omega) (by omega))]
        rcases hgo with z | z
        · rw [z, if_pos (show nI 0 = 0 from rfl)]
        · rw [q1_of (c_atNum h.1.1.2.2 h.1.1.lt), z, if_neg (show ¬ bI true = 0 by decide), ite_self]
      have e2 : F_Mo_readsRow_44 (f2 + 1) (nI r) (nI v) 1 M J = F_Mo_readsRow_62 (F_Mo_readsRow_44 f2) (nI r) (nI v) M J := by
        have hu : F_Mo_readsRow_44 (f2 + 1) (nI r) (nI v) 1 M J = F_Mo_readsRow_44B (F_Mo_readsRow_44 f2) (nI r) (nI v) 1 M J := rfl
        rw [hu]
        unfold F_Mo_readsRow_44B
        rw [if_neg (show ¬ (1 : Int32) = 0 by decide), q1_of h.1.2.1.good, if_neg (show ¬ (1 : Int32) = 0 by decide), sn_gu (sn_in' hr (by omega)), nI_clamp (by omega), h.2.2.1.2.2.2.1, if_pos (show ¬ nI i = 12 from fun z => by have := (nI_eq (b := 12) (by omega) (by omega)).mp z; omega)]
      rw [e1, if_pos hgo, e2]
      obtain ⟨⟨hc, hm, hk7⟩, ⟨c1, c2, c3', c4⟩, ⟨m1, m2, m3', m4, m5, m6⟩, h48⟩ := h
      obtain ⟨q, C1, f1', f2', f3'⟩ := c_numr (x := 0) (y := 48) hc (by omega) (by omega) (by omega)
      obtain ⟨w, M1, J1, v1, v2, v3, v4⟩ := m_numr (x := 0) (y := 48) hm (by omega) (by omega)
      unfold F_Reader_readRow_59 F_Mo_readsRow_62
      rw [q2_of (show F_Reader_readNumber 0 48 C = _ from f1'), q3_of (show F_Mo_number 0 48 M J = _ from v1)]
      have fcc : fC d Cb C1 := fun j h1 h2 => by rw [f2'.1 j h1]; exact c1 j h1 (by omega)
      have fmm : fM Mb M1 := ⟨fun j hj => by rw [v2.1 j (by omega)]; exact m1 j (by omega) (by omega) (by omega), fun j hj => by rw [v2.2 j (by omega)]; exact m2 j (by omega)⟩
      rcases f3' with ⟨rfl, z, y1, y2, y3⟩ | ⟨rfl, y1, y2⟩
      · rcases v4 with ⟨z', x1, x2, x3⟩ | ⟨x1, -⟩
        · rw [y1] at x1
          cases x1
          subst x2
          obtain ⟨a1, a2, a3⟩ := nm_some y1
          have hn1 := kk_n (b := b) (n := n) (k := k) (by omega)
          have hn7 := hm.1.1.1
          have m80 : M1 80 r = nI i := by rw [v2.1 80 (by omega)]; exact m4
          have m80' : sd_up M1 81 (12 * r + i) (nI z) 80 r = nI i := by rw [up_n (by omega)]; exact m80
          have hnew : rwi b n d r (i + 1) (k + 1) (fun j => if j = i then z else nt j) Cb Mb (sd_up C1 (d + 8) (12 * r + i) (nI z)) (sd_up (sd_up M1 81 (12 * r + i) (nI z)) 80 r (nI (i + 1))) J1 := by
            refine ⟨⟨ck_up y3 (by omega), mk_up (mk_up x3 (by omega)) (by omega), by omega⟩, ⟨fun j h1 h2 => ?_, ?_, fun x hx => ?_, fun j hj => ?_⟩, ⟨fun j h1 h2 h3 => ?_, fun j hj => ?_, fun x hx => ?_, up_s, fun x hx => ?_, fun j hj => ?_⟩, fun j hj => ?_⟩
            · rw [up_n h2, f2'.1 j h1]; exact c1 j h1 h2
            · rw [up_n (by omega), f2'.2 4 (by omega) (by omega) (by omega) (by omega)]; exact c2
            · rw [up_m (by omega), f2'.1 (d + 8) (by omega)]; exact c3' x hx
            · show _ = nI (if j = i then z else nt j)
              by_cases e : j = i
              · subst e; rw [if_pos rfl]; exact up_s
              · rw [if_neg e, up_m (by omega), f2'.1 (d + 8) (by omega)]; exact c4 j (by omega)
            · rw [up_n h2, up_n h3, v2.1 j h1]; exact m1 j h1 h2 h3
            · rw [up_n (by omega), up_n (by omega), v2.2 j hj]; exact m2 j hj
            · rw [up_m hx, up_n (by omega), v2.1 80 (by omega)]; exact m3' x hx
            · rw [up_n (by omega), up_m (by omega), v2.1 81 (by omega)]; exact m5 x hx
            · show _ = nI (if j = i then z else nt j)
              rw [up_n (by omega)]
              by_cases e : j = i
              · subst e; rw [if_pos rfl]; exact up_s
              · rw [if_neg e, up_m (by omega), v2.1 81 (by omega)]; exact m6 j (by omega)
            · show (if j = i then z else nt j) ≤ 48
              by_cases e : j = i
              · rw [if_pos e]; exact a2
              · rw [if_neg e]; exact h48 j (by omega)
          obtain ⟨q, C', M', J', g1, g2, g3, g4, g5⟩ := ih (i + 1) (k + 1) _ _ _ J1 f1 f2 (by omega) (by omega) (by omega) (hj.trans v3) hnew
          refine ⟨q, C', M', J', ?_, ?_, g3, g4, ?_⟩
          · rw [if_pos (show ¬ (1 : Int32) = 0 by decide), show nI r * 12 + nI i = nI (12 * r + i) from by rw [show (12 : Int32) = nI 12 from rfl, sn_mul, nI_add, Nat.mul_comm], sn_gu (sn_in' (by omega) (by omega)), nI_clamp (by omega), y2, y_lt, show nI i + 1 = nI (i + 1) from nI_add i 1]
            exact g1
          · rw [q1_of x3.good, if_pos (show ¬ (1 : Int32) = 0 by decide), sn_gu (sn_in' hr (by omega)), nI_clamp (by omega), m80, show 12 * nI r + nI i = nI (12 * r + i) from by rw [show (12 : Int32) = nI 12 from rfl, sn_mul, nI_add], sn_gu (sn_in' (by omega) (by omega)), nI_clamp (by omega), y_lt, sn_gu (sn_in' hr (by omega)), sn_gu (sn_in' hr (by omega)), m80', show nI i + 1 = nI (i + 1) from nI_add i 1, y_lt]
            have hmn : mk b n (k + 1) (sd_up (sd_up M1 81 (12 * r + i) (nI z)) 80 r (nI (i + 1))) J1 := hnew.1.2.1
            cases en : isn (kk b n (k + 1))
            · rw [if_pos (show ¬ sd_up (sd_up M1 81 (12 * r + i) (nI z)) 80 r (nI (i + 1)) 61 21 = 2 from fun zz => by have := (so_num hmn.1).mp zz; rw [en] at this; cases this)]
              rw [en, if_neg (show ¬ (i + 1 = 0 ∨ false = true) by simp)] at g2
              exact g2
            · rw [if_neg (sn_nn ((so_num hmn.1).mpr en))]
              rw [en, if_pos (Or.inr rfl)] at g2
              exact g2
          · rcases g5 with ⟨g5, c, k', nt', C3, M3, z1, z2, z3, z4⟩ | g5
            · exact Or.inl ⟨g5, c, k', nt', C3, M3, z1, z2, by omega, z4⟩
            · exact Or.inr g5
        · rw [y1] at x1; cases x1
      · rcases v4 with ⟨z', x1, -⟩ | ⟨x1, x2⟩
        · rw [y1] at x1; cases x1
        · refine ⟨0, C1, M1, J1, by rw [if_neg (sn_nn rfl)], by rw [q1_of x2.bad, if_neg (sn_nn rfl)], hj.trans v3, ⟨fcc, fmm⟩, Or.inr ⟨rfl, _, k, by omega, y2, x2⟩⟩
    · have hn : isn (kk b n k) = false := Bool.eq_false_iff.mpr (fun z => hgo (Or.inr z))
      have e1 : F_Reader_readRow_51 d (f1 + 1) (nI r) (nI i) C = F_Reader_readRow_78 d (nI r) (nI i) C := by
        rw [hu1]; unfold F_Reader_readRow_51B
        rw [if_neg (show ¬ (12 : Int32) ≤ nI i from nI_ge (b := 12) (by omega) (by omega)), if_neg (nI_ne0 (by omega) (by omega)), q1_of (c_atNum h.1.1.2.2 h.1.1.lt), hn, if_pos (show bI false = 0 from rfl)]
      rw [e1]
      exact stop i k nt C M J f2 (by omega) (by omega) hj h hn
theorem wA_row {r v c : Nat} {nt : Nat → Nat} (h : wA A) (hr : r < 20) (hr2 : r < 4 * A 0 1) (hv : 1 ≤ v ∧ v ≤ 4) (hc : 1 ≤ c ∧ c ≤ 12) (hn : ∀ j, j < c → nt j ≤ 48) : wA (rwA A r v c nt) := by
  obtain ⟨w1, w2, w3, w4, w5, w6⟩ := h
  refine ⟨w1, w2, w3, w4, w5, fun q hq => ?_⟩
  show (if q = r then v else A 6 q) ≤ 4 ∧ ((if q = r then v else A 6 q) = 0 → (if q = r then c else A 7 q) = 0) ∧ (0 < (if q = r then v else A 6 q) → q < 4 * A 0 1 ∧ 1 ≤ (if q = r then c else A 7 q) ∧ (if q = r then c else A 7 q) ≤ 12) ∧ ∀ i, i < (if q = r then c else A 7 q) → (if 12 * r ≤ 12 * q + i ∧ 12 * q + i < 12 * r + 12 then nt (12 * q + i - 12 * r) else A 8 (12 * q + i)) ≤ 48
  by_cases e : q = r
  · simp only [if_pos e]
    subst e
    refine ⟨hv.2, fun z => by omega, fun _ => ⟨hr2, hc⟩, fun i hi => ?_⟩
    rw [if_pos (by omega), Nat.add_sub_cancel_left]
    exact hn i hi
  · simp only [if_neg e]
    obtain ⟨x1, x2, x3, x4⟩ := w6 q hq
    refine ⟨x1, x2, x3, fun i hi => ?_⟩
    have : i < 12 := by
      by_cases z : A 6 q = 0
      · have := x2 z; omega
      · have := (x3 (by omega)).2.2; omega
    rw [if_neg (by omega)]
    exact x4 i hi
theorem l_row (h : ls b n k A R ev u a d C M J) (hk : 3 ≤ kk b n k) (hk2 : kk b n k ≤ 6) : lres b n d k C M J (cend (F_Reader_readRow d C)) (sd_q2 (F_Mo_readsRow (nI (kk b n k - 3)) M J) fun I J => F_Mo_line_86 I J) := by
  have hh := h
  obtain ⟨⟨hc, hm⟩, ⟨hw, hev, hrw⟩, ⟨h3, h4⟩, ⟨h5, h6⟩, ⟨h7, h8, h9⟩, hd⟩ := h
  have hn := kk_n (b := b) (n := n) (k := k) (by omega)
  have hn7 := hm.1.1.1
  have wp := hw.2.1
  have bad : ∀ e oc om, 0 < e → e < 10 → (sd_q2 (F_Reader_fail (nI e) C) fun r1 I2 => some ((vp_nar .boolean r1 : Int32), I2)) = oc → (∀ M1, F_Mo_wrong (nI e) M = some M1 → mbad b n e k M1 → om = some (M1, J)) → lres b n d k C M J (cend oc) (sd_q2 om fun I J => F_Mo_line_86 I J) := by
    intro e oc om he0 he1 h1 h2
    obtain ⟨M1, w1, w2, w3⟩ := mk_wrong (e := e) hm ⟨he0, he1⟩
    refine lres_bad (e := e) (k' := k) (C' := sd_up C 3 7 (nI e)) (M' := M1) (J' := J) ?_ ?_ (fC.refl.up (by omega)) w3.fM jsm.refl (by omega) (cbad_f hc) w2
    · rw [← h1, q2_of c_fail, nar0]
      unfold cend
      rw [y_q2, if_pos rfl]
    · rw [h2 M1 w1 w2, y_q2]
      exact m_86b w2
  have b26 : ∀ x M1 e, mbad b n e k M1 → F_Mo_readsRow_26 x M1 J = some (M1, J) := fun x M1 e hb => by
    unfold F_Mo_readsRow_26
    rw [q1_of hb.bad, if_neg (sn_nn rfl)]
  by_cases e1 : A 0 1 = 0
  · refine bad 1 _ _ (by omega) (by omega) ?_ ?_
    · unfold F_Reader_readRow F_Reader_readRow_21
      rw [h3.1.2.1, y_lt, if_pos (show nI (A 0 1) < 1 by rw [e1]; decide)]
      rfl
    · intro M1 w1 w2
      unfold F_Mo_readsRow F_Mo_readsRow_6
      rw [h4.1.2.1, if_neg (sn_nn (show nI (A 0 1) = 0 by rw [e1]; rfl)), q1_of (show F_Mo_wrong 1 M = _ from w1), y_lt, q1_of w2.bad, if_pos rfl]
      exact b26 _ _ _ w2
  · generalize hr : 4 * (A 0 1 - 1) + kk b n k - 3 = r
    have hr20 : r < 20 := by omega
    have er : (nI (A 0 1) - 1) * 4 + nI (kk b n k) - 3 = nI r := by
      rw [x_sub1 (by omega), show (4 : Int32) = nI 4 from rfl, sn_mul, nI_add, show (3 : Int32) = nI 3 from rfl, x_sub (by omega), ← hr, Nat.mul_comm]
    have er2 : 4 * nI (A 0 1) - 4 + nI (kk b n k - 3) = nI r := by
      rw [show (4 : Int32) = nI 4 from rfl, sn_mul, x_sub (by omega), nI_add, ← hr]
      congr 1
      omega
    have c6 : C (d + 6) r = nI (A 6 r) := (h3.2.2.1 r hr20).1
    have m79 : M 79 r = nI (A 6 r) := (h4.2.2 r hr20).1
    have w6 := hw.2.2.2.2.2 r hr20
    by_cases e2 : A 6 r = 0
    · obtain ⟨C1, s1, s2, s3, s4⟩ := ck_step hc (by omega)
      obtain ⟨M1, J1, g1, g2, g3, g4⟩ := mk_goes hm
      obtain ⟨q, C2, f1, f2, f3⟩ := c_numr (x := 1) (y := 4) s2 (by omega) (by omega) (by omega)
      obtain ⟨w, M2, J2, v1, v2, v3, v4⟩ := m_numr (x := 1) (y := 4) g2 (by omega) (by omega)
      have ecl : F_Reader_readRow d C = (if ¬ q = 0 then F_Reader_readRow_51 d sd_fu (nI r) 0 (sd_up C2 (d + 6) r (C2 3 3)) else some (0, C2)) := by
        unfold F_Reader_readRow
        rw [h3.1.2.1, hc.2.2, er, y_lt, if_neg (show ¬ nI (A 0 1) < 1 from nI_nlt (b := 1) (by omega) (by omega)), if_neg (nI_pos (by omega)), if_pos (show nI r < 20 from nI_lt (b := 20) hr20 (by omega)), sn_gu (sn_in' hr20 (by omega)), nI_clamp (by omega), c6, if_pos (show nI (A 6 r) = 0 by rw [e2]; rfl), q1_of s1, q2_of (show F_Reader_readNumber 1 4 C1 = _ from f1), sn_gu (sn_in' hr20 (by omega)), y_lt]
      have eml : F_Mo_readsRow (nI (kk b n k - 3)) M J = F_Mo_readsRow_44 sd_fu (nI r) w 1 (sd_up M2 80 r 0) J2 := by
        unfold F_Mo_readsRow F_Mo_readsRow_6 F_Mo_readsRow_26
        rw [h4.1.2.1, if_pos (show ¬ nI (A 0 1) = 0 from nI_ne0 (by omega) (by omega)), er2, y_lt, q1_of hm.good, if_neg (by decide), sn_gu (sn_in' hr20 (by omega)), nI_clamp (by omega), m79, if_pos (show nI (A 6 r) ≤ 0 by rw [e2]; decide), q1_of hm.good, if_pos (show ¬ (1 : Int32) = 0 by decide), q2_of g1, q3_of (show F_Mo_number 1 4 M1 J1 = _ from v1), sn_gu (sn_in' hr20 (by omega)), y_lt]
      rw [ecl, eml]
      have fcc : fC d C C2 := s3.fC.trans f2.fC
      have fmm : fM M M2 := g3.m3.fM.trans v2.fM
      rcases f3 with ⟨rfl, z, y1, y2, y3⟩ | ⟨rfl, y1, y2⟩
      · rcases v4 with ⟨z', x1, x2, x3⟩ | ⟨x1, -⟩
        · rw [y1] at x1
          cases x1
          subst x2
          obtain ⟨a1, a2, a3⟩ := nm_some y1
          have hn1 := kk_n (b := b) (n := n) (k := k + 1) (by omega)
          have h0 : rwi b n d r 0 (k + 1 + 1) (fun _ => 0) (sd_up C2 (d + 6) r (nI z)) (sd_up M2 80 r 0) (sd_up C2 (d + 6) r (nI z)) (sd_up M2 80 r 0) J2 :=
            ⟨⟨ck_up y3 (by omega), mk_up x3 (by omega), by omega⟩, ⟨fun _ _ _ => rfl, rfl, fun _ _ => rfl, fun j hj => absurd hj (by omega)⟩, ⟨fun _ _ _ _ => rfl, fun _ _ => rfl, fun _ _ => rfl, up_s, fun _ _ => rfl, fun j hj => absurd hj (by omega)⟩, fun j hj => absurd hj (by omega)⟩
          obtain ⟨q, C', M', J', i1, i2, i3, ⟨i4, i5⟩, i6⟩ := l_notes (v := z) hd hr20 12 0 _ _ _ _ J2 sd_fu sd_fu (by omega) (by rw [sd_fu_val]; omega) (by rw [sd_fu_val]; omega) jsm.refl h0
          rw [if_pos (Or.inl rfl)] at i2
          rw [if_pos (show ¬ (1 : Int32) = 0 by decide), y2, show F_Reader_readRow_51 d sd_fu (nI r) 0 (sd_up C2 (d + 6) r (nI z)) = _ from i1, i2]
          have fC' : fC d C C' := (fcc.up (by omega)).trans i4
          have fM' : fM M M' := (fmm.up (by omega)).trans i5
          rcases i6 with ⟨rfl, c, k', nt, C3, M3, z1, z2, z3, z4, rfl, rfl⟩ | ⟨rfl, e, k', z1, z2, z3⟩
          · obtain ⟨⟨o1, o2, o3⟩, ⟨p1, p2, p3, p4⟩, ⟨q1, q2, q3, q4, q5, q6⟩, q7⟩ := z4
            have cc : ∀ j, j ≠ 3 → j ≠ d + 6 → j ≠ d + 7 → j ≠ d + 8 → sd_up C3 (d + 7) r (nI c) j = C j := fun j j1 j2 j3 j4 => by rw [up_n j3, p1 j j1 j4, up_n j2, f2.1 j j1, s3.1 j j1]
            have mm : ∀ j, j ≠ 61 → j ≠ 79 → j ≠ 80 → j ≠ 81 → sd_up M3 79 r (nI z) j = M j := fun j j1 j2 j3 j4 => by rw [up_n j2, q1 j j1 j3 j4, up_n j3, v2.1 j j1, g3.1 j j1]
            have mj : ∀ j, 25 < j → sd_up M3 79 r (nI z) 61 j = M 61 j := fun j hj => by rw [up_n (by omega), q2 j (by omega), up_n (by omega), v2.2 j (by omega), g3.2 j (by omega)]
            have hnew : ls b n k' (rwA A r z c nt) R ev u a d (sd_up C3 (d + 7) r (nI c)) (sd_up M3 79 r (nI z)) J' := by
              refine ⟨⟨ck_up o1 (by omega), mk_up o2 (by omega)⟩, ⟨wA_row hw hr20 (by omega) ⟨a1, a2⟩ ⟨z1, z2⟩ q7, hev, hrw⟩, ⟨?_, ?_⟩, ⟨crl_of h5 (fun j _ _ => cc j (by omega) (by omega) (by omega) (by omega)), mrl_of h6 (mj 30 (by omega)) (mm 82 (by omega) (by omega) (by omega) (by omega)) (mm 83 (by omega) (by omega) (by omega) (by omega))⟩, ⟨by omega, h8, o3⟩, hd⟩
              · obtain ⟨⟨j0, j1, j2⟩, j4, j5, j6⟩ := h3
                refine ⟨⟨?_, ?_, ?_⟩, fun s hs => ?_, fun x hx => ?_, ?_⟩
                · rw [cc d (by omega) (by omega) (by omega) (by omega)]; exact j0
                · rw [cc d (by omega) (by omega) (by omega) (by omega)]; exact j1
                · rw [cc d (by omega) (by omega) (by omega) (by omega)]; exact j2
                · rw [cc (d + 1) (by omega) (by omega) (by omega) (by omega), cc (d + 2) (by omega) (by omega) (by omega) (by omega), cc (d + 3) (by omega) (by omega) (by omega) (by omega), cc (d + 4) (by omega) (by omega) (by omega) (by omega), cc (d + 5) (by omega) (by omega) (by omega) (by omega)]
                  exact j4 s hs
                · show _ = nI (if x = r then z else A 6 x) ∧ _ = nI (if x = r then c else A 7 x) ∧ _ ∧ ∀ i, i < (if x = r then c else A 7 x) → _ = nI (if 12 * r ≤ 12 * x + i ∧ 12 * x + i < 12 * r + 12 then nt (12 * x + i - 12 * r) else A 8 (12 * x + i))
                  rw [cc (d + 11) (by omega) (by omega) (by omega) (by omega), up_n (show d + 6 ≠ d + 7 by omega), p1 (d + 6) (by omega) (by omega), up_n (show d + 8 ≠ d + 7 by omega)]
                  obtain ⟨t1, t2, t3, t4⟩ := j5 x hx
                  by_cases ex : x = r
                  · simp only [if_pos ex]
                    subst ex
                    refine ⟨up_s, up_s, t3, fun i hi => ?_⟩
                    rw [if_pos (by omega), Nat.add_sub_cancel_left]
                    exact p4 i hi
                  · simp only [if_neg ex]
                    refine ⟨by rw [up_m ex, f2.1 (d + 6) (by omega), s3.1 (d + 6) (by omega)]; exact t1, by rw [up_m ex, p1 (d + 7) (by omega) (by omega), up_n (by omega), f2.1 (d + 7) (by omega), s3.1 (d + 7) (by omega)]; exact t2, t3, fun i hi => ?_⟩
                    have wx := hw.2.2.2.2.2 x hx
                    have hi12 : i < 12 := by
                      by_cases z : A 6 x = 0
                      · have := wx.2.1 z; omega
                      · have := (wx.2.2.1 (by omega)).2.2; omega
                    rw [if_neg (by omega), p3 (12 * x + i) (by omega), up_n (by omega), f2.1 (d + 8) (by omega), s3.1 (d + 8) (by omega)]
                    exact t4 i hi
                · rw [up_n (by omega), p2, up_n (by omega), f2.2 4 (by omega) (by omega) (by omega) (by omega), s4 4 (by omega) (by omega)]; exact j6
              · obtain ⟨⟨j0, j1, j2⟩, j4, j5⟩ := h4
                refine ⟨⟨?_, ?_, ?_⟩, fun s hs => ?_, fun x hx => ?_⟩
                · rw [mj 27 (by omega)]; exact j0
                · rw [mj 28 (by omega)]; exact j1
                · rw [mj 29 (by omega)]; exact j2
                · rw [mm 74 (by omega) (by omega) (by omega) (by omega), mm 75 (by omega) (by omega) (by omega) (by omega), mm 76 (by omega) (by omega) (by omega) (by omega), mm 77 (by omega) (by omega) (by omega) (by omega), mm 78 (by omega) (by omega) (by omega) (by omega)]
                  exact j4 s hs
                · show _ = nI (if x = r then z else A 6 x) ∧ (0 < (if x = r then z else A 6 x) → _ = nI (if x = r then c else A 7 x) ∧ ∀ i, i < (if x = r then c else A 7 x) → _ = nI (if 12 * r ≤ 12 * x + i ∧ 12 * x + i < 12 * r + 12 then nt (12 * x + i - 12 * r) else A 8 (12 * x + i)))
                  rw [up_n (show (80:Nat) ≠ 79 by omega), up_n (show (81:Nat) ≠ 79 by omega)]
                  obtain ⟨t1, t2⟩ := j5 x hx
                  by_cases ex : x = r
                  · simp only [if_pos ex]
                    subst ex
                    refine ⟨up_s, fun _ => ⟨q4, fun i hi => ?_⟩⟩
                    rw [if_pos (by omega), Nat.add_sub_cancel_left]
                    exact q6 i hi
                  · simp only [if_neg ex]
                    refine ⟨by rw [up_m ex, q1 79 (by omega) (by omega) (by omega), up_n (by omega), v2.1 79 (by omega), g3.1 79 (by omega)]; exact t1, fun hp => ?_⟩
                    obtain ⟨t3, t4⟩ := t2 hp
                    refine ⟨by rw [q3 x ex, up_m ex, v2.1 80 (by omega), g3.1 80 (by omega)]; exact t3, fun i hi => ?_⟩
                    have wx := hw.2.2.2.2.2 x hx
                    have hi12 : i < 12 := by have := (wx.2.2.1 hp).2.2; omega
                    rw [if_neg (by omega), q5 (12 * x + i) (by omega), up_n (by omega), v2.1 81 (by omega), g3.1 81 (by omega)]
                    exact t4 i hi
            rw [y_q2]
            exact (l_end hnew).from fC' fM' ((g4.trans v3).trans i3) (by omega)
          · refine lres_bad (C' := C') (M' := M') (J' := J') ?_ ?_ fC' fM' ((g4.trans v3).trans i3) z1 z2 z3
            · unfold cend; rw [y_q2, if_pos rfl]
            · rw [y_q2]; exact m_86b z3
        · rw [y1] at x1; cases x1
      · rcases v4 with ⟨z', x1, -⟩ | ⟨x1, x2⟩
        · rw [y1] at x1; cases x1
        · have bd0 : mbad b n _ (k + 1) (sd_up M2 80 r 0) := mbad_up x2 (by omega)
          have bd : mbad b n _ (k + 1) (sd_up (sd_up M2 80 r 0) 79 r w) := mbad_up bd0 (by omega)
          refine lres_bad (C' := C2) (M' := sd_up (sd_up M2 80 r 0) 79 r w) (J' := J2) ?_ ?_ fcc ((fmm.up (by omega)).up (by omega)) (g4.trans v3) (by omega) y2 bd
          · rw [if_neg (sn_nn rfl)]; unfold cend; rw [y_q2, if_pos rfl]
          · have e44 : F_Mo_readsRow_44 sd_fu (nI r) w 1 (sd_up M2 80 r 0) J2 = some (sd_up (sd_up M2 80 r 0) 79 r w, J2) := by
              have hu : ∀ X, F_Mo_readsRow_44 sd_fu (nI r) w 1 X J2 = F_Mo_readsRow_44B (F_Mo_readsRow_44 (sd_fu - 1)) (nI r) w 1 X J2 := fun _ => rfl
              rw [hu]
              unfold F_Mo_readsRow_44B F_Mo_readsRow_100
              rw [if_neg (show ¬ (1 : Int32) = 0 by decide), q1_of bd0.bad, if_pos rfl, sn_gu (sn_in' hr20 (by omega)), nI_clamp (by omega), y_lt]
            rw [e44, y_q2]
            exact m_86b bd
    · refine bad 4 _ _ (by omega) (by omega) ?_ ?_
      · unfold F_Reader_readRow
        rw [h3.1.2.1, hc.2.2, er, y_lt, if_neg (show ¬ nI (A 0 1) < 1 from nI_nlt (b := 1) (by omega) (by omega)), if_neg (nI_pos (by omega)), if_pos (show nI r < 20 from nI_lt (b := 20) hr20 (by omega)), sn_gu (sn_in' hr20 (by omega)), nI_clamp (by omega), c6, if_neg (nI_ne0 (by omega) (by omega))]
        rfl
      · intro M1 w1 w2
        unfold F_Mo_readsRow F_Mo_readsRow_6
        rw [h4.1.2.1, if_pos (show ¬ nI (A 0 1) = 0 from nI_ne0 (by omega) (by omega)), er2, y_lt, q1_of hm.good, if_neg (by decide), sn_gu (sn_in' hr20 (by omega)), nI_clamp (by omega), m79, if_neg (nI_nle (by omega) (by omega)), q1_of (show F_Mo_wrong 4 M = _ from w1)]
        exact b26 _ _ _ w2
end LN

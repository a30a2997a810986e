/-! ===== the levels above ===== -/
def opq (q κ c : Nat) : Prop := (q = 6 ∧ (κ = 1042 ∧ c = 20007 ∨ κ = 1047 ∧ c = 20008)) ∨ (q = 5 ∧ (κ = 1043 ∧ c = 20005 ∨ κ = 1045 ∧ c = 20006))
def opx2 (q κ c : Nat) : Prop := (q = 2 ∧ κ = 12 ∧ c = 20001) ∨ (q = 1 ∧ κ = 11 ∧ c = 20000)
section RV
variable {b : Nat → Nat} {n p off nv u0 x2 D q : Nat} {kE : Nat → Int32 → sm_MI → Option (Int32 × sm_MI)}
theorem sbc_w {F : sm_MI → Option (Int32 × sm_MI)} {PS PS' : Nat → Nat → List Nat → Prop} {PF PF' : Nat → Nat → Nat → Prop} (h : sbc b n p off nv u0 F PS PF) (h1 : ∀ k k' s, PS k k' s → PS' k k' s) (h2 : ∀ k e k', PF k e k' → PF' k e k') : sbc b n p off nv u0 F PS' PF' := by
  intro k st w C hr
  obtain ⟨r, C', f1, f2, f3⟩ := h k st w C hr
  refine ⟨r, C', f1, f2, ?_⟩
  rcases f3 with ⟨e, k', s, g1, g2, g3⟩ | ⟨e, e', k', g1, g2⟩
  · exact Or.inl ⟨e, k', s, g1, g2, h1 _ _ _ g3⟩
  · exact Or.inr ⟨e, e', k', g1, h2 _ _ _ g2⟩
theorem ts_level {L : Nat → Int32 → Int32 → sm_MI → Option (Int32 × sm_MI)} {F G : sm_MI → Option (Int32 × sm_MI)} (hp : p = 35 ∨ p = 55) (hq : q = 5 ∨ q = 6) (hF : sbc b n p off nv u0 F (TS (kk b n) off nv x2 D (q + 1)) (TF (kk b n) off nv x2 (q + 1)))
    (hG : ∀ C, G C = sd_q2 (F C) fun r I => L sd_fu r 0 I)
    (h0 : ∀ f i C, i ≤ 700 → L (f + 1) 0 (nI i) C = some (0, C)) (h1 : ∀ f i C κ, i ≤ 700 → C 3 2 = nI κ → κ < 20000 → (∀ c, ¬ opq q κ c) → L (f + 1) 1 (nI i) C = some (1, C))
    (h2 : ∀ f i C κ c, C 3 2 = nI κ → κ < 20000 → opq q κ c → i < 700 → L (f + 1) 1 (nI i) C = sd_q1 (F_Reader_step C) fun I1 => sd_q2 (F I1) fun r2 I3 => sd_q1 (F_Rules_add p (nI c) I3) fun I4 => L f r2 (nI (i + 1)) I4) :
    sbc b n p off nv u0 G (TS (kk b n) off nv x2 (D + 1) q) (TF (kk b n) off nv x2 q) := by
  have key : ∀ k1 c, opq q (kk b n k1) c → ∃ mc, mcf off [c] = [mc] ∧ mc < 14 ∧ stg mc = q ∧ wlv (mc :: []) = q ∧ (20000 ≤ c ∧ c ≤ 20008 ∧ c ≠ 20002) ∧ (kk b n k1 = 1043 ∧ q = 5 ∧ mc = 8 ∨ kk b n k1 = 1045 ∧ q = 5 ∧ mc = 9 ∨ kk b n k1 = 1042 ∧ q = 6 ∧ mc = 10 ∨ kk b n k1 = 1047 ∧ q = 6 ∧ mc = 11) := by
    intro k1 c hc
    rcases hc with ⟨rfl, ⟨z, rfl⟩ | ⟨z, rfl⟩⟩ | ⟨rfl, ⟨z, rfl⟩ | ⟨z, rfl⟩⟩
    · exact ⟨10, rfl, by omega, rfl, rfl, by omega, by omega⟩
    · exact ⟨11, rfl, by omega, rfl, rfl, by omega, by omega⟩
    · exact ⟨8, rfl, by omega, rfl, rfl, by omega, by omega⟩
    · exact ⟨9, rfl, by omega, rfl, rfl, by omega, by omega⟩
  refine sbc_w (c_level (A := fun k k1 s => okq nv (D + 1) s ∧ (∀ τ, ql (kk b n k1) τ < q + 1) ∧ ∀ bb m out W τ T rr, (bb = true → kk b n k ≠ 13) → T.length = x2 → wlv W < q → SYe (kk b n) off nv none k1 (out ++ mcf off s) W (τ :: T) rr → SYe (kk b n) off nv (some (bb, m)) k out W (τ :: T) rr) (Bf := TF (kk b n) off nv x2 q) hp hF hG h0 h1 h2 ?_ ?_ ?_ ?_ ?_) ?_ (fun _ _ _ z => z)
  · intro κ c hc
    rcases hc with ⟨-, z | z⟩ | ⟨-, z | z⟩ <;> omega
  · intro k k1 s ⟨g1, g2, g3⟩
    exact ⟨okq_up g1 (by omega), g2, fun bb m out W τ T rr y1 y2 y3 y4 => g3 bb m out W τ T rr y1 y2 (by omega) y4⟩
  · intro k e k1 ⟨g1, g2⟩
    exact ⟨g1, fun bb m out W τ T y1 y2 y3 => g2 bb m out W τ T y1 y2 (by omega)⟩
  · intro k k1 s k2 t c ⟨a1, a2, a3⟩ hc ⟨g1, g2, g3⟩
    obtain ⟨mc, m1, m2, m3, m4, m5, m6⟩ := key k1 c hc
    refine ⟨okq_op a1 g1 m5, g2, fun bb m out W τ T rr y1 y2 y3 y4 => ?_⟩
    rw [mcf_app, mcf_app, m1, ← List.append_assoc, ← List.append_assoc] at y4
    exact a3 bb m out W τ T rr y1 y2 y3 (SYe.pm m6 y3 (g3 false 0 (out ++ mcf off s) (mc :: W) τ T rr (fun z => by cases z) y2 (by show (if 14 ≤ mc then 0 else stg mc) < _; rw [if_neg (by omega)]; omega) (SYe.norm m2 (by have := g2 τ; omega) y4)))
  · intro k k1 s e k2 c ⟨a1, a2, a3⟩ hc ⟨g1, g2⟩
    obtain ⟨mc, m1, m2, m3, m4, m5, m6⟩ := key k1 c hc
    exact ⟨g1, fun bb m out W τ T y1 y2 y3 => a3 bb m out W τ T _ y1 y2 y3 (SYe.pm m6 y3 (g2 false 0 (out ++ mcf off s) (mc :: W) τ T (fun z => by cases z) y2 (by show (if 14 ≤ mc then 0 else stg mc) < _; rw [if_neg (by omega)]; omega)))⟩
  · intro k k' s ⟨⟨a1, a2, a3⟩, a4⟩
    refine ⟨a1, fun τ => ?_, a3⟩
    have h1 := a2 τ
    have n7 := a4 20007
    have n8 := a4 20008
    have n5 := a4 20005
    have n6 := a4 20006
    unfold opq at n7 n8 n5 n6
    unfold ql at h1 ⊢
    rcases hq with rfl | rfl
    · by_cases z1 : kk b n k' = 1042 ∨ kk b n k' = 1047
      · rw [if_pos z1] at h1; omega
      · rw [if_neg z1, if_neg (show ¬ (kk b n k' = 1043 ∨ kk b n k' = 1045) by omega)]
        repeat (first | omega | split)
    · rw [if_neg (show ¬ (kk b n k' = 1042 ∨ kk b n k' = 1047) by omega)]
      repeat (first | omega | split)
theorem xs_level {L : Nat → Int32 → Int32 → sm_MI → Option (Int32 × sm_MI)} {F G : sm_MI → Option (Int32 × sm_MI)} (hp : p = 35 ∨ p = 55) (hq : q = 1 ∨ q = 2) (hF : sbc b n p off nv u0 F (XS (kk b n) off nv x2 D (q + 1)) (XF (kk b n) off nv x2 (q + 1)))
    (hG : ∀ C, G C = sd_q2 (F C) fun r I => L sd_fu r 0 I)
    (h0 : ∀ f i C, i ≤ 700 → L (f + 1) 0 (nI i) C = some (0, C)) (h1 : ∀ f i C κ, i ≤ 700 → C 3 2 = nI κ → κ < 20000 → (∀ c, ¬ opx2 q κ c) → L (f + 1) 1 (nI i) C = some (1, C))
    (h2 : ∀ f i C κ c, C 3 2 = nI κ → κ < 20000 → opx2 q κ c → i < 700 → L (f + 1) 1 (nI i) C = sd_q1 (F_Reader_step C) fun I1 => sd_q2 (F I1) fun r2 I3 => sd_q1 (F_Rules_add p (nI c) I3) fun I4 => L f r2 (nI (i + 1)) I4) :
    sbc b n p off nv u0 G (XS (kk b n) off nv x2 (D + 1) q) (XF (kk b n) off nv x2 q) := by
  have key : ∀ k1 c, opx2 q (kk b n k1) c → ∃ mc, mcf off [c] = [mc] ∧ mc < 14 ∧ stg mc = q ∧ (20000 ≤ c ∧ c ≤ 20008 ∧ c ≠ 20002) ∧ (kk b n k1 = 12 ∧ q = 2 ∧ mc = 4 ∨ kk b n k1 = 11 ∧ q = 1 ∧ mc = 5) := by
    intro k1 c hc
    rcases hc with ⟨rfl, z, rfl⟩ | ⟨rfl, z, rfl⟩
    · exact ⟨4, rfl, by omega, rfl, by omega, by omega⟩
    · exact ⟨5, rfl, by omega, rfl, by omega, by omega⟩
  refine sbc_w (c_level (A := fun k k1 s => okq nv (D + 1) s ∧ ∃ τ, τ ≤ 1 ∧ ql (kk b n k1) τ < q + 1 ∧ ∀ out W T rr, T.length = x2 → wlv W < q → SYe (kk b n) off nv none k1 (out ++ mcf off s) W (τ :: T) rr → SYe (kk b n) off nv (some (true, 0)) k out W (0 :: T) rr) (Bf := XF (kk b n) off nv x2 q) hp hF hG h0 h1 h2 ?_ ?_ ?_ ?_ ?_) ?_ (fun _ _ _ z => z)
  · intro κ c hc
    rcases hc with ⟨-, z⟩ | ⟨-, z⟩ <;> omega
  · intro k k1 s ⟨g1, τ, g2, g3, g4⟩
    exact ⟨okq_up g1 (by omega), τ, g2, g3, fun out W T rr y2 y3 y4 => g4 out W T rr y2 (by omega) y4⟩
  · intro k e k1 ⟨g1, g2⟩
    exact ⟨g1, fun out W T y2 y3 => g2 out W T y2 (by omega)⟩
  · intro k k1 s k2 t c ⟨a1, τ1, a2, a3, a4⟩ hc ⟨g1, τ2, g2, g3, g4⟩
    obtain ⟨mc, m1, m2, m3, m5, m6⟩ := key k1 c hc
    refine ⟨okq_op a1 g1 m5, τ2, g2, g3, fun out W T rr y2 y3 y4 => ?_⟩
    rw [mcf_app, mcf_app, m1, ← List.append_assoc, ← List.append_assoc] at y4
    exact a4 out W T rr y2 y3 (SYe.ao m6 y3 (g4 (out ++ mcf off s) (mc :: W) T rr y2 (by show (if 14 ≤ mc then 0 else stg mc) < _; rw [if_neg (by omega)]; omega) (SYe.norm m2 (by omega) y4)))
  · intro k k1 s e k2 c ⟨a1, τ1, a2, a3, a4⟩ hc ⟨g1, g2⟩
    obtain ⟨mc, m1, m2, m3, m5, m6⟩ := key k1 c hc
    exact ⟨g1, fun out W T y2 y3 => a4 out W T _ y2 y3 (SYe.ao m6 y3 (g2 (out ++ mcf off s) (mc :: W) T y2 (by show (if 14 ≤ mc then 0 else stg mc) < _; rw [if_neg (by omega)]; omega)))⟩
  · intro k k' s ⟨⟨a1, τ, a2, a3, a4⟩, a5⟩
    refine ⟨a1, τ, a2, ?_, a4⟩
    have n7 := a5 20001
    have n8 := a5 20000
    unfold opx2 at n7 n8
    unfold ql at a3 ⊢
    rcases hq with rfl | rfl
    · by_cases z1 : kk b n k' = 1042 ∨ kk b n k' = 1047
      · rw [if_pos z1] at a3; omega
      rw [if_neg z1] at a3 ⊢
      by_cases z2 : kk b n k' = 1043 ∨ kk b n k' = 1045
      · rw [if_pos z2] at a3; omega
      rw [if_neg z2] at a3 ⊢
      by_cases z3 : (kk b n k' = 1060 ∨ kk b n k' = 1061) ∧ τ = 0
      · rw [if_pos z3] at a3; omega
      rw [if_neg z3] at a3 ⊢
      by_cases z4 : kk b n k' = 12
      · rw [if_pos z4] at a3; omega
      rw [if_neg z4, if_neg (show ¬ kk b n k' = 11 by omega)]
      omega
    · by_cases z1 : kk b n k' = 1042 ∨ kk b n k' = 1047
      · rw [if_pos z1] at a3; omega
      rw [if_neg z1] at a3 ⊢
      by_cases z2 : kk b n k' = 1043 ∨ kk b n k' = 1045
      · rw [if_pos z2] at a3; omega
      rw [if_neg z2] at a3 ⊢
      by_cases z3 : (kk b n k' = 1060 ∨ kk b n k' = 1061) ∧ τ = 0
      · rw [if_pos z3] at a3; omega
      rw [if_neg z3, if_neg (show ¬ kk b n k' = 12 by omega)]
      split <;> omega
theorem c_prod (hp : p = 35 ∨ p = 55) (hF : sbc b n p off nv u0 (F_Reader_readTerm p kE (nI x2)) (TS (kk b n) off nv x2 D 7) (TF (kk b n) off nv x2 7)) : sbc b n p off nv u0 (F_Reader_readProduct p kE (nI x2)) (TS (kk b n) off nv x2 (D + 1) 6) (TF (kk b n) off nv x2 6) := by
  refine ts_level (L := fun f x3 x4 I => F_Reader_readProduct_7 p kE f (nI x2) x3 x4 I) hp (Or.inr rfl) hF (fun C => rfl) ?_ ?_ ?_
  · intro f i C hi
    show F_Reader_readProduct_7B p kE (F_Reader_readProduct_7 p kE f) (nI x2) 0 (nI i) C = _
    unfold F_Reader_readProduct_7B
    rw [if_pos (show (0 : Int32) = 0 from rfl), nar0, ite_self]
  · intro f i C κ hi h3 hκ hno
    have n7 := hno 20007
    have n8 := hno 20008
    unfold opq at n7 n8
    have s1 := c_atS (x := 42) h3 hκ (by omega)
    have s2 := c_atS (x := 47) h3 hκ (by omega)
    rw [if_neg (by omega)] at s1 s2
    show F_Reader_readProduct_7B p kE (F_Reader_readProduct_7 p kE f) (nI x2) 1 (nI i) C = _
    unfold F_Reader_readProduct_7B
    rw [if_neg (show ¬ (1 : Int32) = 0 by decide), q1_of (show F_Reader_atSign 42 C = _ from s1), if_neg (sn_nn rfl), q1_of (show F_Reader_atSign 47 C = _ from s2), if_pos rfl, nar1, ite_self]
  · intro f i C κ c h3 hκ hop hi
    have s1 := c_atS (x := 42) h3 hκ (by omega)
    have s2 := c_atS (x := 47) h3 hκ (by omega)
    show F_Reader_readProduct_7B p kE (F_Reader_readProduct_7 p kE f) (nI x2) 1 (nI i) C = _
    unfold F_Reader_readProduct_7B F_Reader_readProduct_20 F_Reader_readProduct_27
    rw [if_neg (show ¬ (700 : Int32) ≤ nI i from nI_ge (b := 700) hi (by omega)), if_neg (show ¬ (1 : Int32) = 0 by decide), q1_of (show F_Reader_atSign 42 C = _ from s1), show nI i + 1 = nI (i + 1) from nI_add i 1]
    rcases hop with ⟨-, ⟨z, rfl⟩ | ⟨z, rfl⟩⟩ | ⟨z, -⟩
    · rw [if_pos z, if_pos (by decide), q1_of (show F_Reader_atSign 42 C = _ from s1), if_pos z, if_neg (by decide)]; rfl
    · rw [if_neg (show ¬ κ = 1000 + 42 by omega), if_neg (sn_nn rfl), q1_of (show F_Reader_atSign 47 C = _ from s2), if_pos z, if_neg (by decide), q1_of (show F_Reader_atSign 42 C = _ from s1), if_neg (show ¬ κ = 1000 + 42 by omega), if_pos rfl]; rfl
    · omega
theorem c_sum (hp : p = 35 ∨ p = 55) (hF : sbc b n p off nv u0 (F_Reader_readProduct p kE (nI x2)) (TS (kk b n) off nv x2 D 6) (TF (kk b n) off nv x2 6)) : sbc b n p off nv u0 (F_Reader_readSum p kE (nI x2)) (TS (kk b n) off nv x2 (D + 1) 5) (TF (kk b n) off nv x2 5) := by
  refine ts_level (L := fun f x3 x4 I => F_Reader_readSum_7 p kE f (nI x2) x3 x4 I) hp (Or.inl rfl) hF (fun C => rfl) ?_ ?_ ?_
  · intro f i C hi
    show F_Reader_readSum_7B p kE (F_Reader_readSum_7 p kE f) (nI x2) 0 (nI i) C = _
    unfold F_Reader_readSum_7B
    rw [if_pos (show (0 : Int32) = 0 from rfl), nar0, ite_self]
  · intro f i C κ hi h3 hκ hno
    have n7 := hno 20005
    have n8 := hno 20006
    unfold opq at n7 n8
    have s1 := c_atS (x := 43) h3 hκ (by omega)
    have s2 := c_atS (x := 45) h3 hκ (by omega)
    rw [if_neg (by omega)] at s1 s2
    show F_Reader_readSum_7B p kE (F_Reader_readSum_7 p kE f) (nI x2) 1 (nI i) C = _
    unfold F_Reader_readSum_7B
    rw [if_neg (show ¬ (1 : Int32) = 0 by decide), q1_of (show F_Reader_atSign 43 C = _ from s1), if_neg (sn_nn rfl), q1_of (show F_Reader_atSign 45 C = _ from s2), if_pos rfl, nar1, ite_self]
  · intro f i C κ c h3 hκ hop hi
    have s1 := c_atS (x := 43) h3 hκ (by omega)
    have s2 := c_atS (x := 45) h3 hκ (by omega)
    show F_Reader_readSum_7B p kE (F_Reader_readSum_7 p kE f) (nI x2) 1 (nI i) C = _
    unfold F_Reader_readSum_7B F_Reader_readSum_20 F_Reader_readSum_27
    rw [if_neg (show ¬ (700 : Int32) ≤ nI i from nI_ge (b := 700) hi (by omega)), if_neg (show ¬ (1 : Int32) = 0 by decide), q1_of (show F_Reader_atSign 43 C = _ from s1), show nI i + 1 = nI (i + 1) from nI_add i 1]
    rcases hop with ⟨z, -⟩ | ⟨-, ⟨z, rfl⟩ | ⟨z, rfl⟩⟩
    · omega
    · rw [if_pos z, if_pos (by decide), q1_of (show F_Reader_atSign 43 C = _ from s1), if_pos z, if_neg (by decide)]; rfl
    · rw [if_neg (show ¬ κ = 1000 + 43 by omega), if_neg (sn_nn rfl), q1_of (show F_Reader_atSign 45 C = _ from s2), if_pos z, if_neg (by decide), q1_of (show F_Reader_atSign 43 C = _ from s1), if_neg (show ¬ κ = 1000 + 43 by omega), if_pos rfl]; rfl
end RV

/-! ===== the model does what SY says ===== -/
def bI (b : Bool) : Int32 := if b then 1 else 0
section SX
variable {b : Nat → Nat} {n a0 off nv k : Nat} {out W T : List Nat} {M M' M2 : sm_MI} {J J' : sm_MJ}
theorem m_o37 {k4 : Int32 → Int32 → sm_MI → sm_MJ → Option (sm_MI × sm_MJ)} {f : Nat} {c : Bool} {y : Int32} (ht : tok b n k M J) (h16 : M 61 16 = 0) (hf : 0 < f) (hc : ¬ (c = true ∧ kk b n k = 13)) : F_Mo_operand_11 k4 f (bI c) y M J = F_Mo_operand_37 k4 (bI c) M J := by
  obtain ⟨f, rfl⟩ : ∃ g, f = g + 1 := ⟨f - 1, by omega⟩
  have hu : F_Mo_operand_11 k4 (f + 1) (bI c) y M J = F_Mo_operand_11B k4 (F_Mo_operand_11 k4 f) (bI c) y M J := rfl
  rw [hu]
  unfold F_Mo_operand_11B
  rw [q1_of (m_good h16), if_neg (by decide)]
  cases c
  · rw [if_pos (show bI false = 0 from rfl)]
  · rw [if_neg (show ¬ bI true = 0 by decide), q1_of ht.kw, if_pos (show ¬ mkw (kk b n k) = 23 from fun z => hc ⟨rfl, (mkw_23 _).1.mp z⟩)]
theorem m_o37p {f : Nat} {x : Int32} (ht : tok b n k M J) (h16 : M 61 16 = 0) (hf : 0 < f) (hk : kk b n k ≠ 1040) : F_Mo_operand_37 (F_Mo_operand_4 f) x M J = sd_q2 (F_Mo_part M J) fun I J => some (I, J) := by
  obtain ⟨f, rfl⟩ : ∃ g, f = g + 1 := ⟨f - 1, by omega⟩
  have sg := m_sign (x := 40) ht (by omega) (by omega)
  rw [if_neg hk] at sg
  unfold F_Mo_operand_37 F_Mo_operand_47
  rw [q1_of (m_good h16), if_neg (by decide), q1_of (show F_Mo_isSign 40 M = some 0 from sg), if_pos rfl, if_pos rfl]
  have hu : F_Mo_operand_4 (f + 1) x 0 M J = F_Mo_operand_4B (F_Mo_operand_4 f) x 0 M J := rfl
  rw [hu]
  unfold F_Mo_operand_4B F_Mo_operand_60
  rw [if_pos rfl]
theorem xs_deep (h : xs a0 out W T M) : xs a0 out W (0 :: T) (sd_up (sd_up M 61 34 (nI (T.length + 1))) 85 (T.length + 1) 0) := by
  obtain ⟨⟨h1, h2⟩, ⟨h3, h4⟩, ⟨h5, h6⟩, h7, h8⟩ := h
  refine ⟨⟨?_, ?_⟩, ⟨?_, stw_of (fun i _ => by rw [up_n (by omega), up_n (by omega)]) h4⟩, ⟨?_, up_s, stw_of (fun i hi => by rw [up_m (by omega), up_n (by omega)]) h6⟩, h7, fun d hd => ?_⟩
  · rw [up_n (by omega), up_m (by omega)]; exact h1
  · rw [up_n (by omega), up_n (by omega)]; exact h2
  · rw [up_n (by omega), up_m (by omega)]; exact h3
  · rw [up_n (by omega)]; exact up_s
  · rcases List.mem_cons.mp hd with e | e
    · omega
    · exact h8 d e
theorem m_deep1 (h : xs a0 out W T M) (hl : T.length < 6) : F_Mo_deeper M = some (sd_up (sd_up M 61 34 (nI (T.length + 1))) 85 (T.length + 1) 0) := by
  unfold F_Mo_deeper
  have e : sd_up M 61 34 (nI (T.length + 1)) 61 34 = nI (T.length + 1) := up_s
  rw [h.2.2.1.1, if_neg (show ¬ (6 : Int32) ≤ nI T.length from nI_ge (b := 6) hl (by omega)), show nI T.length + 1 = nI (T.length + 1) from nI_add _ 1, y_lt, e, sn_gu (sn_in' (by omega) (by omega)), nI_clamp (by omega), nar0, y_lt]
theorem m_deep0 (ht : tok b n k M J) (h16 : M 61 16 = 0) (h : xs a0 out W T M) (hl : T.length = 6) : F_Mo_deeper M = some (sd_up (sd_up M 61 16 (nI (if kk b n k < 25 ∨ kk b n k = 31 ∨ kk b n k = 1040 ∨ 10000 ≤ kk b n k then 2 else 1))) 61 17 (nI (tp b n k))) := by
  have hw := fun e => m_wrong (e := e) h16 ht.pl
  have sg := m_sign (x := 40) ht (by omega) (by omega)
  have hs := so_lt (q := kk b n k)
  unfold F_Mo_deeper F_Mo_deeper_33
  rw [h.2.2.1.1, hl, if_pos (by decide), ht.so]
  by_cases e1 : kk b n k < 25
  · have hso : so (kk b n k) = 1 := by unfold so; rw [if_pos e1]
    rw [hso, if_neg (by decide), if_pos (by decide), if_pos (Or.inl e1), q1_of (show F_Mo_wrong 2 M = _ from hw 2)]
  by_cases e2 : kk b n k = 31
  · have hso : so (kk b n k) = 2 := by rw [e2]; rfl
    rw [hso, if_pos (by decide), if_pos (Or.inr (Or.inl e2)), q1_of (show F_Mo_wrong 2 M = _ from hw 2)]
  by_cases e3 : 10000 ≤ kk b n k
  · have hso : so (kk b n k) = 2 := by unfold so; rw [if_neg (by omega), if_neg (by omega), if_neg (by omega), if_neg (by omega), if_neg (by omega)]
    rw [hso, if_pos (by decide), if_pos (Or.inr (Or.inr (Or.inr e3))), q1_of (show F_Mo_wrong 2 M = _ from hw 2)]
  have n1 : so (kk b n k) ≠ 2 := by unfold so; rw [if_neg (by omega), if_neg e2]; repeat (first | omega | split)
  have n2 : so (kk b n k) ≠ 1 := by unfold so; rw [if_neg (by omega), if_neg e2]; repeat (first | omega | split)
  rw [if_neg (show ¬ nI (so (kk b n k)) = 2 from fun z => n1 ((nI_eq (b := 2) (by omega) (by omega)).mp z)), if_neg (show ¬ nI (so (kk b n k)) = 1 from fun z => n2 ((nI_eq (b := 1) (by omega) (by omega)).mp z)), q1_of (show F_Mo_isSign 40 M = _ from sg)]
  by_cases e4 : kk b n k = 1040
  · rw [if_pos (show kk b n k = 1000 + 40 from e4), if_neg (by decide), if_pos (Or.inr (Or.inr (Or.inl e4))), q1_of (show F_Mo_wrong 2 M = _ from hw 2)]
  · rw [if_neg (show ¬ kk b n k = 1000 + 40 from e4), if_pos rfl, if_neg (by omega), q1_of (show F_Mo_wrong 1 M = _ from hw 1)]
theorem xs_top {τ x : Nat} (h : xs a0 out W (τ :: T) M) (hx : x ≤ 1) : xs a0 out W (x :: T) (sd_up M 85 (T.length + 1) (nI x)) := by
  obtain ⟨⟨h1, h2⟩, ⟨h3, h4⟩, ⟨h5, h6⟩, h7, h8⟩ := h
  refine ⟨⟨?_, ?_⟩, ⟨?_, stw_of (fun i _ => by rw [up_n (by omega)]) h4⟩, ⟨?_, up_s, stw_of (fun i hi => by rw [up_m (by omega)]) h6.2⟩, h7, fun d hd => ?_⟩
  · rw [up_n (by omega)]; exact h1
  · rw [up_n (by omega)]; exact h2
  · rw [up_n (by omega)]; exact h3
  · rw [up_n (by omega)]; exact h5
  · rcases List.mem_cons.mp hd with e | e
    · omega
    · exact h8 d (List.mem_cons_of_mem _ e)
theorem nrm_top {q : Nat} : ∀ W out {o : Nat} {W' : List Nat}, (nrm q out W).2 = o :: W' → (∃ x, x ∈ W ∧ (14 ≤ x ∨ stg x < q) ∧ x = o) ∧ ∀ x, x ∈ W' → x ∈ W
  | [], out, o, W', h => by cases h
  | c :: W, out, o, W', h => by
    unfold nrm at h
    split at h
    · rename_i g
      have h : c :: W = o :: W' := h
      cases h
      exact ⟨⟨_, List.mem_cons_self .., g, rfl⟩, fun x hx => List.mem_cons_of_mem _ hx⟩
    · obtain ⟨⟨x, h1, h2, h3⟩, h4⟩ := nrm_top W (out ++ [c]) h
      exact ⟨⟨x, List.mem_cons_of_mem _ h1, h2, h3⟩, fun x hx => List.mem_cons_of_mem _ (h4 x hx)⟩
theorem m_e0 {f : Nat} (hf : 0 < f) : F_Mo_expression_23 f 0 M J = F_Mo_expression_168 M J := by
  obtain ⟨f, rfl⟩ : ∃ g, f = g + 1 := ⟨f - 1, by omega⟩
  have hu : F_Mo_expression_23 (f + 1) 0 M J = F_Mo_expression_23B (F_Mo_expression_23 f) 0 M J := rfl
  rw [hu]
  unfold F_Mo_expression_23B
  rw [if_pos rfl]
end SX

/-! ===== printed by wip/gen/emit_rel.py: classes, fields, kinds ===== -/
def sm_T0 : u_T := fun k => match k with
  | 0 => ("ValleyMass$Chronicle", "now", "LValleyMass$State;", true)
  | 1 => ("ValleyMass$Chronicle", "past", "[I", true)
  | 2 => ("ValleyMass$Chronicle", "acts", "I", false)
  | 3 => ("ValleyMass$Chronicle", "heardRow", "[I", true)
  | 4 => ("ValleyMass$Chronicle", "heardTold", "[I", true)
  | 5 => ("ValleyMass$Chronicle", "heardNote", "[I", true)
  | _ => ("ValleyMass$Chronicle", "heard", "I", false)
def sm_T1 : u_T := fun k => match k with
  | 0 => ("ValleyMass$Reader", "tape", "LValleyMass$Tape;", true)
  | 1 => ("ValleyMass$Reader", "at", "I", false)
  | 2 => ("ValleyMass$Reader", "token", "I", false)
  | 3 => ("ValleyMass$Reader", "taken", "I", false)
  | 4 => ("ValleyMass$Reader", "everyTold", "Z", false)
  | 5 => ("ValleyMass$Reader", "firstValue", "I", false)
  | 6 => ("ValleyMass$Reader", "valueCount", "I", false)
  | _ => ("ValleyMass$Reader", "fault", "I", false)
def sm_T2 : u_T := fun k => match k with
  | 0 => ("ValleyMass$Rules", "steps", "[I", true)
  | 1 => ("ValleyMass$Rules", "used", "I", false)
  | 2 => ("ValleyMass$Rules", "from", "[I", true)
  | 3 => ("ValleyMass$Rules", "to", "[I", true)
  | 4 => ("ValleyMass$Rules", "values", "[I", true)
  | _ => ("ValleyMass$Rules", "stack", "[I", true)
def sm_T3 : u_T := fun k => match k with
  | 0 => ("ValleyMass$State", "free", "I", false)
  | 1 => ("ValleyMass$State", "caught", "I", false)
  | 2 => ("ValleyMass$State", "fallen", "I", false)
  | 3 => ("ValleyMass$State", "day", "I", false)
  | _ => ("ValleyMass$State", "sung", "I", false)
def sm_T4 : u_T := fun k => match k with
  | 0 => ("ValleyMass$Tape", "text", "[I", true)
  | 1 => ("ValleyMass$Tape", "fed", "I", false)
  | 2 => ("ValleyMass$Tape", "kinds", "[I", true)
  | 3 => ("ValleyMass$Tape", "places", "[I", true)
  | 4 => ("ValleyMass$Tape", "many", "I", false)
  | _ => ("ValleyMass$Tape", "end", "I", false)
def sm_T5 : u_T := fun k => match k with
  | 0 => ("ValleyMass$Valley", "singers", "I", false)
  | 1 => ("ValleyMass$Valley", "pieces", "I", false)
  | 2 => ("ValleyMass$Valley", "every", "I", false)
  | 3 => ("ValleyMass$Valley", "side", "[I", true)
  | 4 => ("ValleyMass$Valley", "part", "[I", true)
  | 5 => ("ValleyMass$Valley", "lowest", "[I", true)
  | 6 => ("ValleyMass$Valley", "highest", "[I", true)
  | 7 => ("ValleyMass$Valley", "skill", "[I", true)
  | 8 => ("ValleyMass$Valley", "need", "[I", true)
  | 9 => ("ValleyMass$Valley", "length", "[I", true)
  | 10 => ("ValleyMass$Valley", "notes", "[I", true)
  | 11 => ("ValleyMass$Valley", "bottom", "[I", true)
  | 12 => ("ValleyMass$Valley", "top", "[I", true)
  | 13 => ("ValleyMass$Valley", "fitting", "[I", true)
  | 14 => ("ValleyMass$Valley", "sideSets", "[I", true)
  | 15 => ("ValleyMass$Valley", "partSets", "[I", true)
  | _ => ("ValleyMass$Valley", "rules", "LValleyMass$Rules;", true)
def sm_T6 : u_T := fun k => match k with
  | 0 => ("ValleyMass", "refused", "[I", true)
  | 1 => ("ValleyMass", "ways", "[I", true)
  | 2 => ("ValleyMass", "reader", "LValleyMass$Reader;", true)
  | 3 => ("ValleyMass", "story", "LValleyMass$Chronicle;", true)
  | 4 => ("ValleyMass", "kept", "LValleyMass$Chronicle;", true)
  | 5 => ("ValleyMass", "trial", "LValleyMass$State;", true)
  | 6 => ("ValleyMass", "told", "LValleyMass$Valley;", false)
  | 7 => ("ValleyMass", "draft", "LValleyMass$Valley;", false)
  | 8 => ("ValleyMass", "faultPlace", "I", false)
  | _ => ("ValleyMass", "imageKept", "Z", false)
def sm_T7 : u_T := fun k => match k with
  | 0 => ("ValleyMassModel", "thrown", "I", false)
  | 1 => ("ValleyMassModel", "singers", "I", false)
  | 2 => ("ValleyMassModel", "pieces", "I", false)
  | 3 => ("ValleyMassModel", "every", "I", false)
  | 4 => ("ValleyMassModel", "side", "[I", true)
  | 5 => ("ValleyMassModel", "part", "[I", true)
  | 6 => ("ValleyMassModel", "lowest", "[I", true)
  | 7 => ("ValleyMassModel", "highest", "[I", true)
  | 8 => ("ValleyMassModel", "skill", "[I", true)
  | 9 => ("ValleyMassModel", "needs", "[I", true)
  | 10 => ("ValleyMassModel", "long2", "[I", true)
  | 11 => ("ValleyMassModel", "note", "[I", true)
  | 12 => ("ValleyMassModel", "ruleAt", "[I", true)
  | 13 => ("ValleyMassModel", "code", "[I", true)
  | 14 => ("ValleyMassModel", "tape", "[I", true)
  | 15 => ("ValleyMassModel", "taped", "I", false)
  | 16 => ("ValleyMassModel", "faultKind", "I", false)
  | 17 => ("ValleyMassModel", "faultPlace", "I", false)
  | 18 => ("ValleyMassModel", "refused", "[I", true)
  | 19 => ("ValleyMassModel", "long1", "I", false)
  | 20 => ("ValleyMassModel", "next", "I", false)
  | 21 => ("ValleyMassModel", "sort", "I", false)
  | 22 => ("ValleyMassModel", "place", "I", false)
  | 23 => ("ValleyMassModel", "long0", "I", false)
  | 24 => ("ValleyMassModel", "value", "I", false)
  | 25 => ("ValleyMassModel", "sign", "I", false)
  | 26 => ("ValleyMassModel", "word", "J", false)
  | 27 => ("ValleyMassModel", "newSingers", "I", false)
  | 28 => ("ValleyMassModel", "newPieces", "I", false)
  | 29 => ("ValleyMassModel", "newEvery", "I", false)
  | 30 => ("ValleyMassModel", "top", "I", false)
  | 31 => ("ValleyMassModel", "firstValue", "I", false)
  | 32 => ("ValleyMassModel", "lastValue", "I", false)
  | 33 => ("ValleyMassModel", "waiting", "I", false)
  | 34 => ("ValleyMassModel", "depth", "I", false)
  | 35 => ("ValleyMassModel", "newSide", "[I", true)
  | 36 => ("ValleyMassModel", "newPart", "[I", true)
  | 37 => ("ValleyMassModel", "newLowest", "[I", true)
  | 38 => ("ValleyMassModel", "newHighest", "[I", true)
  | 39 => ("ValleyMassModel", "newSkill", "[I", true)
  | 40 => ("ValleyMassModel", "newNeeds", "[I", true)
  | 41 => ("ValleyMassModel", "newLong", "[I", true)
  | 42 => ("ValleyMassModel", "newNote", "[I", true)
  | 43 => ("ValleyMassModel", "newRuleAt", "[I", true)
  | 44 => ("ValleyMassModel", "readCode", "[I", true)
  | 45 => ("ValleyMassModel", "waits", "[I", true)
  | 46 => ("ValleyMassModel", "tested", "[Z", true)
  | 47 => ("ValleyMassModel", "now", "[I", true)
  | 48 => ("ValleyMassModel", "then", "[I", true)
  | 49 => ("ValleyMassModel", "ahead", "[I", true)
  | 50 => ("ValleyMassModel", "acts", "I", false)
  | 51 => ("ValleyMassModel", "told", "[I", true)
  | 52 => ("ValleyMassModel", "pile", "[I", true)
  | 53 => ("ValleyMassModel", "heardMany", "I", false)
  | 54 => ("ValleyMassModel", "heard", "[I", true)
  | 55 => ("ValleyMassModel", "gain", "[I", true)
  | 56 => ("ValleyMassModel", "its", "I", false)
  | 57 => ("ValleyMassModel", "hasImage", "Z", false)
  | 58 => ("ValleyMassModel", "imageActs", "I", false)
  | 59 => ("ValleyMassModel", "imageHeard", "I", false)
  | 60 => ("ValleyMassModel", "imageNow", "[I", true)
  | 61 => ("ValleyMassModel", "imageAhead", "[I", true)
  | _ => ("ValleyMassModel", "imageHears", "[I", true)
def sm_cls : List vw_C := [("ValleyMass$Chronicle", sm_T0, 7), ("ValleyMass$Reader", sm_T1, 8), ("ValleyMass$Rules", sm_T2, 6), ("ValleyMass$State", sm_T3, 5), ("ValleyMass$Tape", sm_T4, 6), ("ValleyMass$Valley", sm_T5, 17), ("ValleyMass", sm_T6, 10), ("ValleyMassModel", sm_T7, 63)]
def sm_fk : List (List Nat) := [[3, 3, 0, 3, 3, 3, 0], [3, 0, 0, 0, 1, 0, 0, 0], [3, 0, 3, 3, 3, 3], [0, 0, 0, 0, 0], [3, 0, 3, 3, 0, 0], [0, 0, 0, 3, 3, 3, 3, 3, 3, 3, 3, 3, 3, 3, 3, 3, 3], [3, 3, 3, 3, 3, 3, 3, 3, 0, 1], [0, 0, 0, 0, 3, 3, 3, 3, 3, 3, 3, 3, 3, 3, 3, 0, 0, 0, 3, 0, 0, 0, 0, 0, 0, 0, 2, 0, 0, 0, 0, 0, 0, 0, 0, 3, 3, 3, 3, 3, 3, 3, 3, 3, 3, 3, 3, 3, 3, 3, 0, 3, 3, 0, 3, 3, 0, 1, 0, 0, 3, 3, 3]]
/-! ===== how a heap holds what the small machine has ===== -/
def sm_v (ρ : Nat → Nat) : Value → Value
  | .ref k => .ref (ρ k)
  | v => v
def sm_f1 (ρ : Nat → Nat) (M : sm_M) (k j kd : Nat) : Value := match kd with
  | 3 => .ref (ρ (M.2.2 k j))
  | 2 => .long (M.2.1 k j)
  | _ => .int (M.1 k j)
def sm_fv (ρ : Nat → Nat) (M : sm_M) (k : Nat) (ks : List Nat) : List Value := ks.mapIdx fun j kd => sm_f1 ρ M k j kd
def sm_cell (cA : Nat → ClassId) (ρ : Nat → Nat) (M : sm_M) (k : Nat) (s : Nat × Nat) : va_E := match s.1 with
  | 8 => .inl (cA 0, s.2, .inl (M.1 k))
  | 9 => .inl (cA 1, s.2, .inl (M.1 k))
  | 10 => .inl (cA 2, s.2, .inr (.inl (M.2.1 k)))
  | ci => .inr (ci, sm_fv ρ M k (sm_fk.getD ci []))
def sm_ws (sh : List (Nat × Nat)) (cA : Nat → ClassId) (ρ : Nat → Nat) (M : sm_M) : va_W := sh.mapIdx fun k s => (ρ k, sm_cell cA ρ M k s)
def sm_tys (cA : Nat → ClassId) : List (ClassId × FieldType) := [(cA 0, .int), (cA 1, .boolean), (cA 2, .long)]
theorem sm_ws_at {sh : List (Nat × Nat)} {cA : Nat → ClassId} {ρ : Nat → Nat} {M : sm_M} {k : Nat} {s : Nat × Nat} (h : sh[k]? = some s) : (sm_ws sh cA ρ M)[k]? = some (ρ k, sm_cell cA ρ M k s) := by
  simp [sm_ws, List.getElem?_mapIdx, h]
theorem sm_cell_obj {cA : Nat → ClassId} {ρ : Nat → Nat} {M : sm_M} {k ci N : Nat} (h : ci < 8) : sm_cell cA ρ M k (ci, N) = .inr (ci, sm_fv ρ M k (sm_fk.getD ci [])) := by
  unfold sm_cell
  dsimp only
  split
  · omega
  · omega
  · omega
  · rfl
theorem sm_fv_at {ρ : Nat → Nat} {M : sm_M} {k j kd : Nat} {ks : List Nat} (h : ks[j]? = some kd) : (sm_fv ρ M k ks)[j]? = some (sm_f1 ρ M k j kd) := by
  simp [sm_fv, List.getElem?_mapIdx, h]
theorem sm_fv_len {ρ : Nat → Nat} {M : sm_M} {k : Nat} {ks : List Nat} : (sm_fv ρ M k ks).length = ks.length := by
  simp [sm_fv]
theorem sm_fv_set {ρ : Nat → Nat} {M M' : sm_M} {k a kd : Nat} {ks : List Nat} {v : Value} (h : ks[a]? = some kd) (hv : sm_f1 ρ M' k a kd = v) (ho : ∀ j kd, j ≠ a → sm_f1 ρ M' k j kd = sm_f1 ρ M k j kd) : (sm_fv ρ M k ks).set a v = sm_fv ρ M' k ks := by
  apply List.ext_getElem?
  intro j
  by_cases hj : j = a
  · subst hj
    rw [List.getElem?_set_self (by rw [sm_fv_len]; exact (List.getElem?_eq_some_iff.mp h).1), sm_fv_at h, hv]
  · rw [List.getElem?_set_ne (Ne.symm hj)]
    cases hk : ks[j]? with
    | none => simp [sm_fv, List.getElem?_mapIdx, hk]
    | some kd' => rw [sm_fv_at hk, sm_fv_at hk, ho j kd' hj]
theorem sm_ws_set {sh : List (Nat × Nat)} {cA : Nat → ClassId} {ρ : Nat → Nat} {M M' : sm_M} {k : Nat} {s : Nat × Nat} {e : va_E} (h : sh[k]? = some s) (he : sm_cell cA ρ M' k s = e) (ho : ∀ j s, j ≠ k → sm_cell cA ρ M' j s = sm_cell cA ρ M j s) : (sm_ws sh cA ρ M).set k (ρ k, e) = sm_ws sh cA ρ M' := by
  apply List.ext_getElem?
  intro j
  by_cases hj : j = k
  · subst hj
    rw [List.getElem?_set_self (by rw [sm_ws, List.length_mapIdx]; exact (List.getElem?_eq_some_iff.mp h).1), sm_ws_at h, he]
  · rw [List.getElem?_set_ne (Ne.symm hj)]
    cases hk : sh[j]? with
    | none => simp [sm_ws, List.getElem?_mapIdx, hk]
    | some s' => rw [sm_ws_at hk, sm_ws_at hk, ho j s' hj]
theorem sm_up_ne {α : Type} {f : Nat → α} {k j : Nat} {v : α} (h : j ≠ k) : va_up f k v j = f j := by simp [va_up, h]
theorem sm_up_eq {α : Type} {f : Nat → α} {k : Nat} {v : α} : va_up f k v k = v := by simp [va_up]
/-- the cells of the other places stay -/
theorem sm_cell_ne {cA : Nat → ClassId} {ρ : Nat → Nat} {M M' : sm_M} {j : Nat} (h1 : M'.1 j = M.1 j) (h2 : M'.2.1 j = M.2.1 j) (h3 : M'.2.2 j = M.2.2 j) (s : Nat × Nat) : sm_cell cA ρ M' j s = sm_cell cA ρ M j s := by
  have hf : ∀ ks, sm_fv ρ M' j ks = sm_fv ρ M j ks := fun ks => by simp [sm_fv, sm_f1, h1, h2, h3]
  unfold sm_cell
  simp only [h1, h2, hf]
theorem sm_set_I {sh : List (Nat × Nat)} {cA : Nat → ClassId} {ρ : Nat → Nat} {M : sm_M} {k n : Nat} {f : Nat → Int32} {t : Nat} (h : sh[k]? = some (8 + t, n)) (ht : t < 2) : (sm_ws sh cA ρ M).set k (ρ k, .inl (cA t, n, .inl f)) = sm_ws sh cA ρ (va_up M.1 k f, M.2) := by
  refine sm_ws_set h ?_ (fun j s hj => sm_cell_ne (M := M) (M' := (va_up M.1 k f, M.2)) (sm_up_ne hj) rfl rfl s)
  rcases (show t = 0 ∨ t = 1 by omega) with rfl | rfl <;> simp [sm_cell, va_up]
theorem sm_set_J {sh : List (Nat × Nat)} {cA : Nat → ClassId} {ρ : Nat → Nat} {M : sm_M} {k n : Nat} {f : Nat → Int64} (h : sh[k]? = some (10, n)) : (sm_ws sh cA ρ M).set k (ρ k, .inl (cA 2, n, .inr (.inl f))) = sm_ws sh cA ρ (M.1, va_up M.2.1 k f, M.2.2) := by
  refine sm_ws_set h ?_ (fun j s hj => sm_cell_ne (M := M) (M' := (M.1, va_up M.2.1 k f, M.2.2)) rfl (sm_up_ne hj) rfl s)
  simp [sm_cell, va_up]
theorem sm_set_F {sh : List (Nat × Nat)} {cA : Nat → ClassId} {ρ : Nat → Nat} {M M' : sm_M} {k ci N a kd : Nat} {v : Value} (h : sh[k]? = some (ci, N)) (hc : ci < 8) (hk : (sm_fk.getD ci [])[a]? = some kd) (hv : sm_f1 ρ M' k a kd = v) (ho : ∀ j kd, j ≠ a → sm_f1 ρ M' k j kd = sm_f1 ρ M k j kd)
    (h1 : ∀ j, j ≠ k → M'.1 j = M.1 j) (h2 : ∀ j, j ≠ k → M'.2.1 j = M.2.1 j) (h3 : ∀ j, j ≠ k → M'.2.2 j = M.2.2 j) : (sm_ws sh cA ρ M).set k (ρ k, .inr (ci, (sm_fv ρ M k (sm_fk.getD ci [])).set a v)) = sm_ws sh cA ρ M' := by
  refine sm_ws_set h ?_ (fun j s hj => sm_cell_ne (h1 j hj) (h2 j hj) (h3 j hj) s)
  rw [sm_cell_obj hc, sm_fv_set hk hv ho]
/-- locals: what is known of them is so -/
def sm_has (ls : Array Slot) (nL : Nat) (ρ : Nat → Nat) (L : sm_L) : Prop := ls.size = nL ∧ L.length = nL ∧ lv_wf ls ∧ ∀ (i : Nat) (v : Value), L[i]? = some (some v) → ls[i]? = some (.val (sm_v ρ v))
theorem sm_has.ofList {ls : Array Slot} {nL : Nat} {ρ : Nat → Nat} {L : sm_L} {l : List (Nat × Value)} (h : lv_has ls nL l) (hl : L.length = nL) (hm : ∀ (i : Nat) (v : Value), L[i]? = some (some v) → (i, sm_v ρ v) ∈ l) : sm_has ls nL ρ L :=
  ⟨h.1, hl, h.2.1, fun i v hv => h.2.2 _ (hm i v hv)⟩
theorem sm_sub_len : ∀ {L' L : sm_L}, sm_sub L' L → L'.length = L.length
  | [], [], _ => rfl
  | none :: r, _ :: q, h => by simp [sm_sub_len (L' := r) (L := q) h]
  | some v :: r, w :: q, h => by simp [sm_sub_len (L' := r) (L := q) h.2]
  | [], _ :: _, h => h.elim
  | none :: _, [], h => h.elim
  | some _ :: _, [], h => h.elim
theorem sm_sub_at : ∀ {L' L : sm_L}, sm_sub L' L → ∀ (i : Nat) (v : Value), L'[i]? = some (some v) → L[i]? = some (some v)
  | [], _, _, i, v, h => by simp at h
  | none :: r, _ :: q, hs, i, v, h => by
    cases i with
    | zero => simp at h
    | succ i => simpa using sm_sub_at (L' := r) (L := q) hs i v (by simpa using h)
  | some w :: r, x :: q, hs, i, v, h => by
    cases i with
    | zero => simp at h; subst h; simpa using hs.1
    | succ i => simpa using sm_sub_at (L' := r) (L := q) hs.2 i v (by simpa using h)
  | none :: _, [], hs, _, _, _ => hs.elim
  | some _ :: _, [], hs, _, _, _ => hs.elim
theorem sm_has.sub {ls : Array Slot} {nL : Nat} {ρ : Nat → Nat} {L L' : sm_L} (h : sm_has ls nL ρ L) (hs : sm_sub L' L) : sm_has ls nL ρ L' :=
  ⟨h.1, (sm_sub_len hs).trans h.2.1, h.2.2.1, fun i v hv => h.2.2.2 i v (sm_sub_at hs i v hv)⟩
/-- the list that the kit's rows take -/
def sm_ll (ρ : Nat → Nat) (L : sm_L) : List (Nat × Value) := L.zipIdx.filterMap fun q => q.1.map fun v => (q.2, sm_v ρ v)
theorem sm_ll_mem {ρ : Nat → Nat} {L : sm_L} {i : Nat} {v : Value} (h : L[i]? = some (some v)) : (i, sm_v ρ v) ∈ sm_ll ρ L := by
  refine List.mem_filterMap.mpr ⟨(some v, i), ?_, rfl⟩
  exact List.mem_iff_getElem?.mpr ⟨i, by simp [List.getElem?_zipIdx, h]⟩
theorem sm_ll_of {ρ : Nat → Nat} {L : sm_L} {q : Nat × Value} (h : q ∈ sm_ll ρ L) : ∃ v, L[q.1]? = some (some v) ∧ q.2 = sm_v ρ v := by
  obtain ⟨⟨o, i⟩, h1, h2⟩ := List.mem_filterMap.mp h
  obtain ⟨n, hn⟩ := List.mem_iff_getElem?.mp h1
  rw [List.getElem?_zipIdx] at hn
  cases o with
  | none => simp at h2
  | some v =>
    simp at h2
    subst h2
    cases hL : L[n]? with
    | none => rw [hL] at hn; simp at hn
    | some z =>
      rw [hL] at hn
      simp at hn
      obtain ⟨e1, e2⟩ := hn
      subst e1; subst e2
      exact ⟨v, hL, rfl⟩
theorem sm_has.list {ls : Array Slot} {nL : Nat} {ρ : Nat → Nat} {L : sm_L} (h : sm_has ls nL ρ L) : lv_has ls nL (sm_ll ρ L) :=
  ⟨h.1, h.2.2.1, fun q hq => by
    obtain ⟨v, h1, h2⟩ := sm_ll_of hq
    rw [h2]
    exact h.2.2.2 _ v h1⟩
theorem sm_v_cat (ρ : Nat → Nat) (v : Value) : (sm_v ρ v).category = v.category := by cases v <;> rfl
theorem sm_st1_len (L : sm_L) (i : Nat) (v : Option Value) : (sm_st1 L i v).length = L.length := by
  cases i <;> simp [sm_st1]
theorem sm_clr_some {o : Option Value} {v : Value} (h : sm_clr o = some v) : o = some v ∧ ¬ v.category = 2 := by
  unfold sm_clr at h
  split at h
  · cases h
  · cases h
  · subst h
    refine ⟨rfl, fun hc => ?_⟩
    rename_i h1 h2
    cases v <;> simp [Value.category] at hc
    · exact h1 _ rfl
    · exact h2 _ rfl
theorem sm_st1_at {L : sm_L} {i : Nat} {x : Option Value} {j : Nat} {v : Value} (h : (sm_st1 L i x)[j]? = some (some v)) : (j = i ∧ x = some v) ∨ (j ≠ i ∧ L[j]? = some (some v) ∧ ¬ (j + 1 = i ∧ v.category = 2)) := by
  cases i with
  | zero =>
    by_cases hj : j = 0
    · subst hj
      by_cases hl : 0 < L.length
      · simp [sm_st1, hl] at h
        exact Or.inl ⟨rfl, h⟩
      · have : L = [] := by cases L <;> simp at hl ⊢
        subst this
        simp [sm_st1] at h
    · simp [sm_st1, List.getElem?_set_ne (Ne.symm hj)] at h
      exact Or.inr ⟨hj, h, by omega⟩
  | succ i =>
    by_cases hj : j = i + 1
    · subst hj
      by_cases hl : i + 1 < L.length
      · simp [sm_st1, hl] at h
        exact Or.inl ⟨rfl, h⟩
      · rw [List.getElem?_eq_none (by rw [sm_st1_len]; omega)] at h
        cases h
    · simp only [sm_st1, List.getElem?_set_ne (Ne.symm hj)] at h
      by_cases hji : j = i
      · subst hji
        simp only [List.getElem?_modify_eq] at h
        cases hL : L[j]? with
        | none => rw [hL] at h; simp at h
        | some o =>
          rw [hL] at h
          simp at h
          obtain ⟨e, hc⟩ := sm_clr_some h
          subst e
          exact Or.inr ⟨hj, rfl, fun z => hc z.2⟩
      · rw [List.getElem?_modify_ne _ _ (Ne.symm hji)] at h
        exact Or.inr ⟨hj, h, by omega⟩

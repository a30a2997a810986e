/-! ===== calls, ends and throws of the small machine ===== -/
def sm_xn : Nat → String
  | 0 => "java/lang/IllegalArgumentException"
  | _ => "java/util/NoSuchElementException"
/-- name, bytes, answer, handlers by bytes -/
abbrev sm_In : Type := MethodName × ByteArray × Option FieldType × List (Nat × Nat × Nat × Nat)
def sm_cw (nm : MethodName) (bytes : ByteArray) (maxL : Nat) (ret : Option FieldType) (hh : List (Nat × Nat × Nat × Nat)) : Cond := match hh with
  | [] => .code nm bytes maxL ret
  | h :: r => .codeWith nm bytes maxL ret (h :: r)
def sm_rm (d : Nat) (B : Nat × Nat) : Room := { frames := 60 + d, cells := B.1, slots := B.2, locals := 1000 + 60 * d }
/-- what a method may change: the cells of the places, and new ones -/
def sm_A (sh : List (Nat × Nat)) (ρ : Nat → Nat) (sz : Nat) : Nat → Prop := fun q => (∃ k, k < sh.length ∧ q = ρ k) ∨ sz ≤ q
/-- the texts that are thrown: class, entry, text; and what the tables say of the thrown classes beside -/
def sm_ss : List (String × Nat × String) := [("ValleyMass", 69, "the tape has not so many bytes"), ("ValleyMass", 128, "no such count"), ("ValleyMass", 368, "no such singer"), ("ValleyMass", 152, "no such thing of a singer"), ("ValleyMass", 370, "no such piece"), ("ValleyMass", 372, "no such part"), ("ValleyMass", 164, "no such note"), ("ValleyMass", 285, "no such part of a fraction"), ("ValleyMass", 287, "not so many can fall"), ("ValleyMass", 303, "not so many slips"), ("ValleyMass", 312, "not so many ways"), ("ValleyMass", 318, "no such thing of who is flat"), ("ValleyMass", 352, "no such thing of a game"), ("ValleyMass", 354, "not so much can be gained"), ("ValleyMass", 360, "no such thing of a war"), ("ValleyMass", 362, "not so many days"), ("ValleyMass", 248, "no such thing of a cast"), ("ValleyMass", 179, "no such side"), ("ValleyMass", 268, "no such row"), ("ValleyMass", 274, "no such thing of widening"), ("ValleyMass", 374, "no such side at war")]
def sm_ds : List MethodName := [⟨"java/lang/RuntimeException", "<init>", "(Ljava/lang/String;)V"⟩, ⟨"java/lang/Exception", "<init>", "(Ljava/lang/String;)V"⟩, ⟨"java/lang/Throwable", "<init>", "(Ljava/lang/String;)V"⟩]
def sm_cs : List (String × String) := [("java/lang/IllegalArgumentException", "java/lang/IllegalArgumentException"), ("java/util/NoSuchElementException", "java/util/NoSuchElementException")]
def sm_ncs : List (String × String) := [("java/lang/IllegalArgumentException", "java/util/NoSuchElementException")]
def sm_nw (U : State) : Prop := (∀ q ∈ sm_ss, ∃ sa, vk_R q.1 q.2.1 q.2.2 sa U) ∧ (∀ x ∈ sm_ds, va_Nw (.declares x) U) ∧ (∀ q ∈ sm_cs, va_Nw (.castable q.1 q.2) U) ∧ (∀ q ∈ sm_ncs, va_Nc q.1 q.2 U)
theorem sm_Nc_moved {C T : String} {u U : State} (hvm : u.vm.Alike U.vm) (h : va_Nc C T u) : va_Nc C T U := by
  obtain ⟨c, t, h1, h2, h3⟩ := h
  exact ⟨c, t, by rw [hvm.findClass]; exact h1, by rw [hvm.findClass]; exact h2, by rw [hvm.assignable]; exact h3⟩
theorem sm_nw.warm {s U : State} (hW : s.WarmedH U.vm) (h : sm_nw s) : sm_nw U :=
  ⟨fun q hq => by obtain ⟨sa, z⟩ := h.1 q hq; exact ⟨sa, vk_R.warm hW z⟩, fun x hx => (h.2.1 x hx).warmD hW, fun q hq => (h.2.2.1 q hq).warmC hW, fun q hq => sm_Nc_moved hW.alike (h.2.2.2 q hq)⟩
theorem sm_nw.same {u U : State} (hv : U.vm = u.vm) (h : sm_nw u) : sm_nw U :=
  ⟨fun q hq => by obtain ⟨sa, z⟩ := h.1 q hq; exact ⟨sa, vk_R.same hv z⟩, fun x hx => (h.2.1 x hx).same rfl hv.symm, fun q hq => (h.2.2.1 q hq).same rfl hv.symm, fun q hq => sm_Nc_moved (by rw [hv]; exact Vm.Alike.refl _) (h.2.2.2 q hq)⟩
def sm_byt : List Int32 := sm_text.map Int32.ofNat
/-- what never changes: the script, two statics of Throwable, the texts -/
def sm_ev (ρ : Nat → Nat) (X : Nat × (Nat → Int32)) (A : Nat → Prop) (U : State) (H : Heap) : Prop :=
  va_X (ρ sm_SCR) X.1 X.2 U H ∧ ρ sm_SCR < H.size ∧ ¬ A (ρ sm_SCR) ∧ vx_Zq Bundle.tN "UNASSIGNED_STACK" Bundle.steD A U H ∧ vx_Zq Bundle.tN "SUPPRESSED_SENTINEL" Bundle.listD A U H ∧
  sm_nw U ∧ (∃ tx, vk_R "ValleyMass$Tape" 67 tx (ρ sm_STR) U) ∧ (∃ adV, vk_S 1 [130] [sm_byt] (fun _ => ρ sm_STR) adV A U H) ∧ va_Z "java/lang/String" "COMPACT_STRINGS" "Z" (.int 1) A U H ∧ va_Zq "jdk/internal/util/Preconditions" "SIOOBE_FORMATTER" "Ljava/util/function/BiFunction;" A U H
theorem sm_ev.kept {ρ : Nat → Nat} {X : Nat × (Nat → Int32)} {A : Nat → Prop} {U : State} {H H1 : Heap} (h : sm_ev ρ X A U H) (hz : H.size ≤ H1.size) (hq : ∀ a : Nat, a < H.size → ¬ A a → H1[a]? = H[a]?) : sm_ev ρ X A U H1 := by
  obtain ⟨h1, h2, h3, h4, h5, h6, h7, ⟨adV, h8⟩, h9, h10⟩ := h
  exact ⟨h1.kept (hq _ h2 h3), Nat.lt_of_lt_of_le h2 hz, h3, h4.kept hq, h5.kept hq, h6, h7, ⟨adV, h8.kept hq⟩, h9.kept hq, h10.kept hq⟩
theorem sm_ev.narrow {ρ : Nat → Nat} {X : Nat × (Nat → Int32)} {A B : Nat → Prop} {U : State} {H : Heap} (h : sm_ev ρ X A U H) (hAB : ∀ q, B q → A q) : sm_ev ρ X B U H := by
  obtain ⟨h1, h2, h3, h4, h5, h6, h7, ⟨adV, h8⟩, h9, h10⟩ := h
  exact ⟨h1, h2, fun z => h3 (hAB _ z), h4.narrow hAB, h5.narrow hAB, h6, h7, ⟨adV, h8.narrow hAB⟩, h9.narrow hAB, h10.narrow hAB⟩
theorem sm_ev.warm {ρ : Nat → Nat} {X : Nat × (Nat → Int32)} {A : Nat → Prop} {s U : State} {H : Heap} (hW : s.WarmedH U.vm) (h : sm_ev ρ X A s H) : sm_ev ρ X A U H := by
  obtain ⟨h1, h2, h3, h4, h5, h6, ⟨tx, h7⟩, ⟨adV, h8⟩, h9, h10⟩ := h
  have ha := hW.alike
  exact ⟨h1.moved ha, h2, h3, h4.moved ha, h5.moved ha, h6.warm hW, ⟨tx, vk_R.warm hW h7⟩, ⟨adV, h8.moved ha⟩, h9.moved ha, h10.moved ha⟩
theorem sm_ev.same {ρ : Nat → Nat} {X : Nat × (Nat → Int32)} {A : Nat → Prop} {u U : State} {H : Heap} (hv : U.vm = u.vm) (h : sm_ev ρ X A u H) : sm_ev ρ X A U H := by
  obtain ⟨h1, h2, h3, h4, h5, h6, ⟨tx, h7⟩, ⟨adV, h8⟩, h9, h10⟩ := h
  have ha : u.vm.Alike U.vm := by rw [hv]; exact Vm.Alike.refl _
  exact ⟨h1.moved ha, h2, h3, h4.moved ha, h5.moved ha, h6.same hv, ⟨tx, vk_R.same hv h7⟩, ⟨adV, h8.moved ha⟩, h9.moved ha, h10.moved ha⟩
def sm_Pc (sh : List (Nat × Nat)) (X : Nat × (Nat → Int32)) (D : va_G) (cA : Nat → ClassId) (ρ : Nat → Nat) (sz : Nat) (as : List Value) (M : sm_M) : Array Value → State → Prop := fun a U =>
  a = (as.map (sm_v ρ)).toArray ∧ U.heap.size = sz ∧ va_P D sm_cls (sm_ws sh cA ρ M) U.heap ∧ va_D (fun _ => True) (sm_ws sh cA ρ M) ∧ va_K D sm_cls (sm_tys cA) U ∧ sm_ev ρ X (sm_A sh ρ sz) U U.heap
def sm_Qc (sh : List (Nat × Nat)) (D : va_G) (cA : Nat → ClassId) (ρ : Nat → Nat) (Q : sm_Q) (A : Nat → Prop) : Array Value → State → Outcome → State → Prop := fun _ st o t =>
  ∃ v M', Q (.inl v) M' ∧ o = .returned (v.map (sm_v ρ)) ∧ va_P D sm_cls (sm_ws sh cA ρ M') t.heap ∧ va_F A st t
def sm_XC (sh : List (Nat × Nat)) (D : va_G) (cA : Nat → ClassId) (ρ : Nat → Nat) (Q : sm_Q) (A : Nat → Prop) : String → State → State → Prop := fun E st t =>
  ∃ n M', n ≤ 1 ∧ Q (.inr n) M' ∧ E = sm_xn n ∧ va_P D sm_cls (sm_ws sh cA ρ M') t.heap ∧ va_F A st t
/-- the contract of a method of the small machine -/
def sm_Mt (l : Launch) (Ts : List Cond) (P : List sm_Me) (N : List sm_In) (sh : List (Nat × Nat)) (X : Nat × (Nat → Int32)) (d y : Nat) (as : List Value) (M : sm_M) (Q : sm_Q) : Prop :=
  ∀ (me : sm_Me) (nm : MethodName) (bytes : ByteArray) (ret : Option FieldType) (hh : List (Nat × Nat × Nat × Nat)), P[y]? = some me → N[y]? = some (nm, bytes, ret, hh) → ∀ (D : va_G) (cA : Nat → ClassId) (ρ : Nat → Nat) (sz : Nat),
    vx_Met l nm (sm_cw nm bytes me.2.2.2 ret hh :: Ts) (sm_rm d me.2.1) (sm_Pc sh X D cA ρ sz as M) (sm_Qc sh D cA ρ Q (sm_A sh ρ sz)) (sm_XC sh D cA ρ Q (sm_A sh ρ sz)) me.2.1.1 me.2.1.2 (sm_A sh ρ sz)
theorem sm_Pc.blind {sh : List (Nat × Nat)} {X : Nat × (Nat → Int32)} {D : va_G} {cA : Nat → ClassId} {ρ : Nat → Nat} {sz : Nat} {as : List Value} {M : sm_M} : FrameBlind (sm_Pc sh X D cA ρ sz as M) := by
  intro a U g mk h
  obtain ⟨h1, h2, h3, h4, h5, h6⟩ := h
  exact ⟨h1, h2, h3, h4, va_K.moved (u := U) (U := U.calling g mk a) (Vm.Alike.refl U.vm) h5, sm_ev.same (u := U) (U := U.calling g mk a) rfl h6⟩
/-- the addresses are the places', whatever the cells hold -/
theorem sm_D_any {A B : Nat → Prop} {sh : List (Nat × Nat)} {cA : Nat → ClassId} {ρ : Nat → Nat} {M M' : sm_M} (h : va_D A (sm_ws sh cA ρ M)) (hB : ∀ k, k < sh.length → B (ρ k)) : va_D B (sm_ws sh cA ρ M') := by
  have key : ∀ (M : sm_M) (i : Nat) (q : Nat × va_E), (sm_ws sh cA ρ M)[i]? = some q → i < sh.length ∧ q.1 = ρ i ∧ ∃ q2, (sm_ws sh cA ρ M')[i]? = some q2 ∧ q2.1 = ρ i := by
    intro M i q hq
    cases hs : sh[i]? with
    | none => simp [sm_ws, List.getElem?_mapIdx, hs] at hq
    | some z =>
      rw [sm_ws_at hs] at hq
      cases hq
      exact ⟨(List.getElem?_eq_some_iff.mp hs).1, rfl, _, sm_ws_at hs, rfl⟩
  have key2 : ∀ (i : Nat), i < sh.length → ∃ q2, (sm_ws sh cA ρ M)[i]? = some q2 ∧ q2.1 = ρ i := fun i hi => ⟨_, sm_ws_at (List.getElem?_eq_getElem hi), rfl⟩
  refine ⟨fun i j x y hi hj hxy => ?_, fun i q hq => ?_⟩
  · obtain ⟨a1, a2, -⟩ := key M' i x hi
    obtain ⟨b1, b2, -⟩ := key M' j y hj
    obtain ⟨q1, c1, c2⟩ := key2 i a1
    obtain ⟨q2, d1, d2⟩ := key2 j b1
    exact h.1 i j q1 q2 c1 d1 (by rw [c2, d2, ← a2, ← b2]; exact hxy)
  · obtain ⟨a1, a2, -⟩ := key M' i q hq
    rw [a2]
    exact hB i a1
/-- what is known of a call -/
def sm_iok (Ts : List Cond) (P : List sm_Me) (N : List sm_In) (own : String) (idx a b c : Nat) (t : List Nat) (virt : Bool) : Prop :=
  ∃ (me : sm_Me) (nm : MethodName) (bytes : ByteArray) (ret : Option FieldType) (hh : List (Nat × Nat × Nat × Nat)), P[a]? = some me ∧ N[a]? = some (nm, bytes, ret, hh) ∧ t.getD 0 0 = me.2.1.1 ∧ t.getD 1 0 = me.2.1.2 ∧ me.2.2.2 ≤ 41 ∧
    Cond.methodLink own idx nm ∈ Ts ∧ Cond.initialized nm.cls ∈ Ts ∧ (nm.cls ≠ "java/lang/invoke/MethodHandle" ∧ nm.cls ≠ "java/lang/invoke/VarHandle") ∧ sm_cw nm bytes me.2.2.2 ret hh ∈ Ts ∧
    ((virt = false ∧ c = 0 ∧ Cond.static nm ∈ Ts ∧ (parseMethodDescriptor nm.desc).map (fun d => d.parameters.length) = some b) ∨
     (virt = true ∧ hh = [] ∧ (∃ (ci : Nat) (T : u_T) (n : Nat), c = ci + 10 ∧ ci < 8 ∧ sm_cls[ci]? = some (nm.cls, T, n)) ∧ Cond.instanceMethod nm ∈ Ts ∧ Cond.selects nm.cls nm nm ∈ Ts ∧ (parseMethodDescriptor nm.desc).map (fun d => d.parameters.length + 1) = some b))
section SCALL
variable {p : Program} {l : Launch} {e : Env} {R : Room} {s : State} {m : MethodId} {args : Array Value} {below : List Frame} {meth : Method} {c : Code} {Qf : State → Prop} {D : va_G} {A : Nat → Prop} {sh : List (Nat × Nat)} {cA : Nat → ClassId} {ρ : Nat → Nat} {nL : Nat}
variable {cc : ByteArray} {L : sm_L} {st : List Value} {nc ns : Nat} {M : sm_M}
/-- a call's run, with a continuation for each way back -/
theorem sm_back {bp : Nat} {rest : List Value} {mc ms : Nat} {Q' : sm_Q} {A1 : Nat → Prop} {aa : Array Value} {H H0 : Heap} {locs : List Loc} {ls : Array Slot} {st0 : List Value}
    (hr : vx_Run p l e R s m args below meth c H locs nc ns mc ms (F0 m bp ls st0) (rest.map (sm_v ρ)) (sm_Qc sh D cA ρ Q' A1 aa) (sm_XC sh D cA ρ Q' A1) A1)
    (hS : va_S A H0 H locs) (hD : va_D A (sm_ws sh cA ρ M)) (hA : ∀ q, A1 q → A q)
    (kk : ∀ v M' H1 locs1, Q' (.inl v) M' → sm_Rl D A sh cA ρ H0 M' H1 locs1 → W p l e R s m args below meth c H1 locs1 (nc + mc) (ns + ms) Qf (F0 m (bp + 3) ls ((v.toList ++ rest).map (sm_v ρ))))
    (kx : ∀ n M' H1 locs1 q ce, n ≤ 1 → Q' (.inr n) M' → sm_Rl D A sh cA ρ H0 M' H1 locs1 → H1[q]? = some ce → ce.vm = .none → s.vm.findClass (sm_xn n) = some ce.cls → vx_W p l e R s m args below meth c H1 locs1 (nc + mc) (ns + ms) Qf (F0 m bp ls (rest.map (sm_v ρ))) q) :
    W p l e R s m args below meth c H locs nc ns Qf (F0 m bp ls st0) := by
  intro T hT X
  rcases hr T hT X with ⟨v, st₀, t, T', L, h0, X', hL, e1, e2, ⟨v', M', hq, hv, hP, hF⟩, st⟩ | ⟨q, st₀, t, T', L, E, ce, h0, X', hL, e1, e2, ⟨n, M', hn1, hq, hE, hP, hF⟩, hce, hcv, hcl, st⟩
  · cases hv
    obtain ⟨k1, k2, k3⟩ := vx_keep (A0 := A) (A1 := A1) (free := A1) h0 e1 hS (fun q _ h => hA q h) hA hL hF
    obtain ⟨t2, a1, b1⟩ := kk v' M' T'.heap (locs ++ L) hq ⟨by rw [e1]; exact hP, sm_D_any hD (fun k hk => by obtain ⟨q2, c1, c2⟩ : ∃ q2, (sm_ws sh cA ρ M)[k]? = some q2 ∧ q2.1 = ρ k := ⟨_, sm_ws_at (List.getElem?_eq_getElem hk), rfl⟩; rw [← c2]; exact hD.2 k q2 c1), k3⟩ T' rfl X'
    refine ⟨t2, st t2 ?_, b1⟩
    have e3 : (v'.toList ++ rest).map (sm_v ρ) = (v'.map (sm_v ρ)).toList ++ rest.map (sm_v ρ) := by cases v' <;> simp
    rw [e3] at a1
    exact a1
  · obtain ⟨k1, k2, k3⟩ := vx_keep (A0 := A) (A1 := A1) (free := A1) h0 e1 hS (fun q _ h => hA q h) hA hL hF
    subst hE
    obtain ⟨t2, a1, b1⟩ := kx n M' T'.heap (locs ++ L) q ce hn1 hq ⟨by rw [e1]; exact hP, sm_D_any hD (fun k hk => by obtain ⟨q2, c1, c2⟩ : ∃ q2, (sm_ws sh cA ρ M)[k]? = some q2 ∧ q2.1 = ρ k := ⟨_, sm_ws_at (List.getElem?_eq_getElem hk), rfl⟩; rw [← c2]; exact hD.2 k q2 c1), k3⟩ (by rw [e1]; exact hce) hcv hcl T' rfl X'
    exact ⟨t2, st.trans a1, b1⟩
end SCALL

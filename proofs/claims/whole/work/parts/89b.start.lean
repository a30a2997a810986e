/-! ===== the law's walk: its first bytes, then its loop on the small machine ===== -/
theorem st_ret {p : Program} {l : Launch} {e : Env} {s : State} {m : MethodId} {below : List Frame} {meth : Method} {c : Code} {b : Nat} {v : Int32} (hv : vp_nar .boolean v = 1) (hx : p.tables.exec = Jvm.exec) (hb : c.code = code) (hr : meth.sig.returnType = ret) (hlocks : meth.locks = false) {pc : Nat} {H : Heap} {ls : Array Slot} (hdg : decode code pc = .ok (.ireturn, 1)) : W p l e room_1 s m #[Value.ref b] below meth c H [] 601024 7293034 (lw_Z below #[Value.ref b] s) (F0 m pc ls [.int v]) := by
  intro T hT X
  obtain ⟨fs, hret, hrun, hended, hW, hframe⟩ := X.leave (v := some (.int 1)) (hlocks := hlocks) (fun h => by rw [hr] at h; cases h)
  have hmeth' : T.vm.method? m = some meth := X.method'
  refine ⟨T.setFrames fs, ?_, .returned (some (.int 1)), hrun, hended, rfl, ⟨_, rfl⟩, hW, hframe⟩
  jvm_step X.here [X.here.top, hx, hb, hdg, hmeth', hr, ret, sm_nar, hv]
  (try refine ⟨rfl, ?_⟩); (try refine ⟨rfl, ?_⟩)
  first | (intro acts; rw [hret _ acts rfl rfl rfl]) | rw [hret _ _ rfl rfl rfl]
  exact Steps.refl _
section STO
variable {p : Program} {l : Launch} {e : Env} {R : Room} {s : State} {m : MethodId} {args : Array Value} {below : List Frame} {meth : Method} {c : Code} {Qf : State → Prop} {D : va_G} {A : Nat → Prop} {cA : Nat → ClassId} {H0 H : Heap} {locs : List Loc}
variable {cc : ByteArray} {own : String} {ls : Array Slot} {pc k n nL : Nat} {ws : va_W}
/-- a new object by its constructor -/
theorem st_obj (hx : p.tables.exec = Jvm.exec) (hb : c.code = cc) (hml : c.maxLocals = nL) (ho : s.vm.findClass own = some m.cls) (hts : ∀ w ∈ sm_Ts, w.before args s = true) (hK : va_K D sm_cls (sm_tys cA) s) (hA : ∀ q : Nat, H0.size ≤ q → A q) (hnw : cz_nw s) (hsz : ls.size = nL) {ic im cj mc ms fr N' : Nat} {C' : String} {T' : u_T} {dj : List Value} {bytes : ByteArray} {Sh : Nat → va_W → Prop} {idx2 a2 : Nat} {fin2 : Bool} {b2 : Nat} {own2 : String} (d1 : decode cc pc = .ok (.new ic, 3)) (d2 : decode cc (pc + 3) = .ok (.dup, 1)) (d3 : decode cc (pc + 4) = .ok (.invokespecial im, 3))
    (hcl : Cond.classLink own ic C' ∈ sm_Ts) (hinst : Cond.instantiable C' N' ∈ sm_Ts) (hini : Cond.initialized C' ∈ sm_Ts) (hcj : sm_cls[cj]? = some (C', T', N')) (hfj : sm_fok sm_Ts own2 idx2 cj a2 b2 fin2) (hdj : ∀ j, j < N' → defaultValue ((parseFieldDescriptor (T' j).2.2.1).getD .int) = vp_V dj j) (hM : cz_Met l D cA ⟨C', "<init>", "()V"⟩ bytes cj dj Sh mc ms fr) (hcode : Cond.code ⟨C', "<init>", "()V"⟩ bytes 1 none ∈ sm_Ts) (hlk : Cond.methodLink own im ⟨C', "<init>", "()V"⟩ ∈ sm_Ts) (hinm : Cond.instanceMethod ⟨C', "<init>", "()V"⟩ ∈ sm_Ts) (hno : C' ≠ "java/lang/invoke/MethodHandle" ∧ C' ≠ "java/lang/invoke/VarHandle")
    (hfr : fr + 1 ≤ R.frames) (hlo : 20 + 20 * fr ≤ R.locals) (hc : k + 1 + mc ≤ R.cells) (hs : n + N' + ms ≤ R.slots) (hP : va_P D sm_cls ws H) (hD : va_D A ws) (hS : va_S A H0 H locs) (kk : ∀ (q : Nat) (w1 : va_W) (H1 : Heap) (locs1 : List Loc), Sh q w1 → va_P D sm_cls (ws ++ w1) H1 → va_D A (ws ++ w1) → va_S A H0 H1 locs1 → W p l e R s m args below meth c H1 locs1 (k + 1 + mc) (n + N' + ms) Qf (F0 m (pc + 7) ls [.ref q])) : W p l e R s m args below meth c H locs k n Qf (F0 m pc ls []) := by
  obtain ⟨-, C, T, N, hcj2, -, -, -, -, -, hw, -, hty, -⟩ := hfj
  rw [hcj] at hcj2
  cases hcj2
  refine va_new (ci := cj) (fs := dj) (C := C') (T := T') (N := N') hx hb hts hw (fun k => (parseFieldDescriptor (T' k).2.2.1).getD .int) (fun k hk => by obtain ⟨t, ht⟩ := hty k hk; simp [ht]) ho (hts _ hcl) (hts _ hinst) (hts _ hini) hK hP hD hS hA hcj hdj (by omega) (by omega) d1 (fun q H hP hD hS => ?_)
  refine lv_dup hx hb d2 rfl ?_
  have hPc : va_P D sm_cls [(q, .inr (cj, dj))] H := fun i z hz => by
    cases i with
    | zero => cases hz; exact hP _ _ cz_at
    | succ i => cases hz
  have hDc : va_D (fun _ => True) [(q, .inr (cj, dj))] := ⟨fun i j x y hi hj _ => by
    have h1 := at_lt hi
    have h2 := at_lt hj
    rw [List.length_singleton] at h1 h2
    omega, fun _ _ _ => trivial⟩
  have hFc : ∀ z, va_A [(q, .inr (cj, dj))] H.size z → A z := fun z hz => by
    rcases hz with ⟨i, e, hi⟩ | hz
    · cases i with
      | zero => cases hi; exact hD.2 _ _ cz_at
      | succ i => cases hi
    · exact hA z (Nat.le_trans hS.1 hz)
  have hG : GoodIn sm_Ts (.code ⟨C', "<init>", "()V"⟩ bytes 1 none :: sm_Ts) := by
    intro w hw
    have hw2 : w ∈ sm_Ts := by
      rcases List.mem_cons.mp hw with rfl | h2
      · exact hcode
      · exact h2
    exact ⟨hw2, good_of_word (List.all_eq_true.mp sm_Tg w hw2)⟩
  refine va_callv (va_runI (As := []) (rest := [.ref q]) ⟨hx, hb, hml, ho, hts⟩ (hM q H.size) (cwI 0 hts hG rfl rfl rfl (hts _ hini) (hts _ hlk) (hts _ hinm) rfl ⟨hno.1, hno.2, cz_par⟩ ⟨hfr, by show 8 + (1 + 11) + 20 * fr ≤ R.locals; omega⟩) ⟨fun a U g mk z => by obtain ⟨z0, z1, z2, z3, z4, z5⟩ := z; exact ⟨z0, z1, z2, va_K.moved (u := U) (U := U.calling g mk a) (Vm.Alike.refl U.vm) z3, z4, cz_nw.same (u := U) (U := U.calling g mk a) rfl z5⟩, fun U hU hW => ⟨rfl, by rw [hU], by rw [hU]; exact hPc, va_K.moved hW.alike hK, hDc, cz_nw.warm hW hnw⟩⟩ rfl rfl hsz rfl (lv_room (Nat.le_of_ble_eq_true rfl)) d3 ⟨hc, hs⟩) hS (fun z _ hz => hFc z hz) hFc (fun u t H1 locs1 ht hvm hp1 hB hz1 hk1 hS1 => ?_)
  obtain ⟨w1, g1, g2, g3⟩ := hB
  rw [ht] at g2
  obtain ⟨j1, j2⟩ := cz_join hP hD hk1 hFc g2 g3
  exact kk q w1 H1 locs1 g1 j1 j2 hS1
end STO
def st_Q : sm_Q := fun r _ => r = .inl (some (.int 1))
set_option maxRecDepth 100000 in
theorem st_nonew : mc_304.all (fun e => match e.1 with | .new _ => false | _ => true) = true := by decide +kernel
set_option maxHeartbeats 4000000 in
/-- behind the start, the law's loop -/
theorem st_loop {p : Program} {l : Launch} {e : Env} {s : State} {m : MethodId} {below : List Frame} {meth : Method} {c : Code} (hl0 : l.stackTraces = false) {b L : Nat} {xs : Nat → Int32} (hL : L ≤ 3072) (hx : p.tables.exec = Jvm.exec) (hb : c.code = code) (hr : meth.sig.returnType = ret) (hml : c.maxLocals = 8) (hown : s.vm.findClass R_law = some m.cls) (hts : ∀ w ∈ sm_Ts, w.before #[Value.ref b] s = true) (hlocks : meth.locks = false)
    {D : va_G} {cA : Nat → ClassId} {ρ : Nat → Nat} (hK : va_K D sm_cls (sm_tys cA) s) (hA : sm_A sm_sh ρ s.heap.size = fun q => s.heap.size ≤ q) (hev : sm_ev ρ (L, xs) (fun q => s.heap.size ≤ q) s s.heap) {H : Heap} {locs : List Loc} {ls : Array Slot} (hP : va_P D sm_cls (sm_ws sm_sh cA ρ (I0, J0, sm_rf 21 41)) H) (hD : va_D (fun q => s.heap.size ≤ q) (sm_ws sm_sh cA ρ (I0, J0, sm_rf 21 41))) (hS : va_S (fun q => s.heap.size ≤ q) s.heap H locs)
    (hls : sm_has ls 8 ρ [some (.ref 1000000), some (.ref 0), some (.ref 61), some (.ref 96), some (.int (nI (6 * 0))), none, none, none]) : W p l e room_1 s m #[Value.ref b] below meth c H locs 97 15433 (lw_Z below #[Value.ref b] s) (F0 m 23 ls []) := by
  have hW := law_loop (D := 80) (X := (L, xs)) (Q := st_Q) (Nat.le_refl 80) hL (fun _ => rfl) 512 0 A0 R0 21 41 I0 J0 97 15433 (by omega) (by show L ≤ _; omega) (Or.inl ⟨rfl, rfl⟩) Rel_0 (by omega) (by omega)
  have hent := sm_mo_304.2.1
  have hev2 : sm_ev ρ (L, xs) (sm_A sm_sh ρ s.heap.size) s s.heap := by rw [hA]; exact hev
  have hfr2 : 60 ≤ room_1.frames ∧ 1000 ≤ room_1.locals := ⟨Nat.le_of_ble_eq_true rfl, Nat.le_of_ble_eq_true rfl⟩
  have clos := sm_frame (p := p) (l := l) (e := e) (R := room_1) (s := s) (m := m) (args := #[Value.ref b]) (below := below) (meth := meth) (c := c) (Qf := lw_Z below #[Value.ref b] s) (D := D) (sh := sm_sh) (cA := cA) (ρ := ρ) (nL := 8) (cc := code) (own := "ValleyMassLaw") (Ts := sm_Ts) (X := (L, xs)) (me := me_304) (call := sm_C sm_sh (L, xs) sm_P 80) (Q := st_Q) (P := sm_P) (N := sm_N) (d := 80) (ret := some .boolean)
    hx hb hml hts sm_Tg hown hK hev2 ⟨Nat.le_of_ble_eq_true rfl, Nat.le_of_ble_eq_true rfl⟩ ⟨rfl, rfl⟩ sm_sh_ok (sm_sound l hl0 sm_Tg sm_j_ok sm_sh_ok sm_hM 80) hent (sz_strlen sm_Tg sm_j_ok hx hb hml hts hown hev2 hfr2) (sz_strchr sm_Tg sm_j_ok hx hb hml hts hown hev2 hfr2) ?_ ?_
  · have hY := hW (sm_YY p l e room_1 s m #[Value.ref b] below meth c (lw_Z below #[Value.ref b] s) D (sm_A sm_sh ρ s.heap.size) sm_sh cA ρ 8 me_304.1) clos sm_YY_forget
    have hZ := hY _ rfl H locs ls ⟨hP, by rw [hA]; exact hD, by rw [hA]; exact hS⟩ hls
    exact hZ
  · intro pc e1 Lc st nc ns M1 he1 hisr hpost
    have hE := hent pc e1 he1
    have hnn := List.all_eq_true.mp st_nonew _ (List.mem_of_getElem? he1)
    obtain ⟨i, bp, a, bb, cN, t⟩ := e1
    cases i with
    | new ik => cases hnn
    | lreturn =>
      obtain ⟨-, ⟨z, -⟩ | ⟨-, z⟩ | ⟨z, -⟩⟩ := hE <;> cases z
    | return_ =>
      obtain ⟨-, ⟨z, -⟩ | ⟨z, -⟩ | ⟨-, z⟩⟩ := hE <;> cases z
    | ireturn =>
      obtain ⟨hd, ⟨-, ⟨rfl, -⟩ | ⟨-, z⟩⟩ | ⟨z, -⟩ | ⟨z, -⟩⟩ := hE
      · intro H locs ls hRl hl
        simp only [sm_do, sm_rti] at hpost
        split at hpost
        · rename_i x
          simp only [cond_eq_ite] at hpost
          split at hpost
          · rename_i hc
            simp only [Bool.and_eq_true] at hc
            have h2 : (Sum.inl (some (.int (vp_nar .boolean x))) : Option Value ⊕ Nat) = .inl (some (.int 1)) := hpost.2
            have hv : vp_nar .boolean x = 1 := Value.int.inj (Option.some.inj (Sum.inl.inj h2))
            refine W.widen (k := 601024) (n := 7293034) (Nat.le_of_ble_eq_true hc.1) (Nat.le_of_ble_eq_true hc.2) ?_
            refine W.forget (locs := []) (fun q hq => ?_) (st_ret hv hx hb hr hlocks hd)
            have h3 := hRl.2.2.2.2 q hq
            rw [hA] at h3
            exact h3
          · exact hpost.elim
        · exact hpost.elim
      · cases z
      · cases z
      · cases z
    | _ => cases hisr
  · intro pc e1 n nc' ns' Lc M' H1 locs1 ls rest q ce he1 hn1 haf
    have z : ([] : List (Nat × Nat × Nat × Nat × Nat)) = [] ∧ (Sum.inr n : Option Value ⊕ Nat) = .inl (some (.int 1)) := haf
    cases z.2
set_option maxRecDepth 100000 in
set_option maxHeartbeats 4000000 in
theorem whole_start {p : Program} {e : Env} {s : State} {m : MethodId} {below : List Frame} {meth : Method} {c : Code} (l : Launch) (hl0 : l.stackTraces = false) {b L : Nat} {xs : Nat → Int32} (hL : L ≤ 3072) (C0 : lw_At p s m meth c b L xs) : W p l e room_1 s m #[Value.ref b] below meth c s.heap [] 0 0 (lw_Z below #[Value.ref b] s) (entryFrame m ([Value.ref b] : List Value).toArray 8) := by
  obtain ⟨hx, hb, hr, hml, hown, hts0, hX, hbl, hlocks, hgv⟩ := C0
  obtain ⟨D, cA, hK⟩ := st_K hts0
  obtain ⟨tx, hev⟩ := ev_start (A := fun q => s.heap.size ≤ q) hgv hts0 hX hbl (fun a h1 h2 => absurd h1 (Nat.not_lt.mpr h2))
  have hts : ∀ w ∈ sm_Ts, w.before #[Value.ref b] s = true := fun w hw => hts0 w (List.mem_filter.mp hw).1
  have hnw : cz_nw s := st_nests hts0
  have hA : ∀ q : Nat, s.heap.size ≤ q → (fun q => s.heap.size ≤ q) q := fun q h => h
  have hl := lv_entry ([.ref b]) (n := 8) (Nat.le_of_ble_eq_true rfl)
  rw [lg_entry_eq]
  generalize (lg_sl ([.ref b]) ++ List.replicate (8 - (lg_sl ([.ref b])).length) Slot.unset).toArray = ls at hl ⊢
  have hl : lv_has ls 8 [(0, .ref b)] := hl
  refine st_obj (ws := []) (A := fun q => s.heap.size ≤ q) (H0 := s.heap) (ic := 8) (im := 120) (cj := 6) (mc := 60) (ms := 5045) (fr := 3) (dj := [.null, .null, .null, .null, .null, .null, .null, .null, .int 0, .int 0]) hx hb hml hown hts hK hA hnw hl.1 (by decide +kernel) (by decide +kernel) (by decide +kernel) (sm_wd_in (i := 118) (by decide +kernel)) (sm_wd_in (i := 119) (by decide +kernel)) (sm_wd_in (i := 95) (by decide +kernel)) rfl (sm_fk_ok (own := 9) (idx := 9) (ci := 6) (a := 0) (b := 3) (fin := true) (w := 374) (sm_cw_at (by omega)) (by decide +kernel)) (by decide +kernel) (k_VM l D cA) (sm_wd_in (i := 122) (by decide +kernel)) (sm_wd_in (i := 120) (by decide +kernel)) (sm_wd_in (i := 121) (by decide +kernel)) (by decide) (Nat.le_of_ble_eq_true rfl) (Nat.le_of_ble_eq_true rfl) (Nat.le_of_ble_eq_true rfl) (Nat.le_of_ble_eq_true rfl) (fun i z hz => by cases hz) ⟨fun i j x y hi => (by cases hi), fun i z hz => (by cases hz)⟩ va_S.rf (fun a0 w0 H locs g1 hP hD hS => ?_)
  refine lv_astore_n (k := 1) hx hb (i := 1) (by decide +kernel) rfl hl (by omega) rfl fun ls hl => ?_
  have hl : lv_has ls 8 [(1, .ref a0), (0, .ref b)] := hl
  refine st_obj (ic := 121) (im := 123) (cj := 7) (mc := 34) (ms := 10314) (fr := 1) (dj := [.int 0, .int 0, .int 0, .int 0, .null, .null, .null, .null, .null, .null, .null, .null, .null, .null, .null, .int 0, .int 0, .int 0, .null, .int 0, .int 0, .int 0, .int 0, .int 0, .int 0, .int 0, .long 0, .int 0, .int 0, .int 0, .int 0, .int 0, .int 0, .int 0, .int 0, .null, .null, .null, .null, .null, .null, .null, .null, .null, .null, .null, .null, .null, .null, .null, .int 0, .null, .null, .int 0, .null, .null, .int 0, .int 0, .int 0, .int 0, .null, .null, .null]) hx hb hml hown hts hK hA hnw hl.1 (by decide +kernel) (by decide +kernel) (by decide +kernel) (sm_wd_in (i := 1299) (by decide +kernel)) (sm_wd_in (i := 1300) (by decide +kernel)) (sm_wd_in (i := 102) (by decide +kernel)) rfl (sm_fk_ok (own := 10) (idx := 7) (ci := 7) (a := 3) (b := 0) (fin := false) (w := 1308) (sm_cw_at (by omega)) (by decide +kernel)) (by decide +kernel) (k_Mo l D cA) (sm_wd_in (i := 1303) (by decide +kernel)) (sm_wd_in (i := 1301) (by decide +kernel)) (sm_wd_in (i := 1302) (by decide +kernel)) (by decide) (Nat.le_of_ble_eq_true rfl) (Nat.le_of_ble_eq_true rfl) (Nat.le_of_ble_eq_true rfl) (Nat.le_of_ble_eq_true rfl) hP hD hS (fun a61 w61 H locs g2 hP hD hS => ?_)
  refine lv_astore_n (k := 2) hx hb (i := 2) (by decide +kernel) rfl hl (by omega) rfl fun ls hl => ?_
  have hl : lv_has ls 8 [(2, .ref a61), (1, .ref a0), (0, .ref b)] := hl
  refine lv_iconst (n := 1) hx hb (v := 1) (by decide +kernel) rfl ?_
  refine va_newa (atype := .long) (ty := .long) (n := 1) (N' := 1) hx hb (hts _ (sm_wd_in (i := 1934) (by decide +kernel))) rfl hK hP hD hS hA (a0 := (1, .inr (.inl fun _ => 0))) (fun cA => rfl) (by decide) (by decide) (by decide) (Nat.le_of_ble_eq_true rfl) (Nat.le_of_ble_eq_true rfl) (by decide +kernel) (fun a96 c1 H hK1 hP hD hS => ?_)
  have e1 : c1 = cA 2 := cz_same (ty := .long) hK rfl hK1 (Or.inr (Or.inr rfl))
  rw [e1] at hP hD
  refine lv_astore_n (k := 3) hx hb (i := 3) (by decide +kernel) rfl hl (by omega) rfl fun ls hl => ?_
  have hl : lv_has ls 8 [(3, .ref a96), (2, .ref a61), (1, .ref a0), (0, .ref b)] := hl
  refine lv_iconst (n := 0) hx hb (v := 0) (by decide +kernel) rfl ?_
  refine lv_istore (i := 4) hx hb (by decide +kernel) hl (by omega) rfl fun ls hl => ?_
  have hl : lv_has ls 8 [(4, .int 0), (3, .ref a96), (2, .ref a61), (1, .ref a0), (0, .ref b)] := hl
  obtain ⟨a1, a2, a3, w3, a8, w8, a14, w14, a20, w20, a21, w21, a41, w41, ⟨a4, w4, ⟨a5, a6, a7, rfl⟩, rfl⟩, ⟨a9, w9, a10, a11, a12, a13, rfl, rfl⟩, ⟨a15, w15, a16, a17, a18, a19, rfl, rfl⟩, rfl, ⟨a22, a23, a24, a25, a26, a27, a28, a29, a30, a31, a32, a33, a34, a35, w35, ⟨a36, a37, a38, a39, a40, rfl⟩, rfl⟩, ⟨a42, a43, a44, a45, a46, a47, a48, a49, a50, a51, a52, a53, a54, a55, w55, ⟨a56, a57, a58, a59, a60, rfl⟩, rfl⟩, rfl⟩ := g1
  obtain ⟨a62, a63, a64, a65, a66, a67, a68, a69, a70, a71, a72, a73, a74, a75, a76, a77, a78, a79, a80, a81, a82, a83, a84, a85, a86, a87, a88, a89, a90, a91, a92, a93, a94, a95, rfl⟩ := g2
  rw [ws_97_app] at hP hD
  rw [← ws_97_eq cA b tx] at hP hD
  generalize hρ : rho b tx _ = ρ at hP hD
  refine st_loop hl0 hL hx hb hr hml hown hts hlocks hK ?_ (hev ρ (by rw [← hρ]; rfl) (by rw [← hρ]; rfl)) hP hD hS (sm_has.ofList hl rfl ?_)
  · funext q
    refine propext ⟨fun h => ?_, Or.inr⟩
    rcases h with ⟨k, hk, rfl⟩ | h
    · exact hD.2 k _ (sm_ws_at (List.getElem?_eq_getElem hk))
    · exact h
  · intro i v hv
    match i, hv with
    | 0, hv => cases hv; rw [← hρ]; exact List.mem_of_getElem? (i := 4) rfl
    | 1, hv => cases hv; rw [← hρ]; exact List.mem_of_getElem? (i := 3) rfl
    | 2, hv => cases hv; rw [← hρ]; exact List.mem_of_getElem? (i := 2) rfl
    | 3, hv => cases hv; rw [← hρ]; exact List.mem_of_getElem? (i := 1) rfl
    | 4, hv => cases hv; exact List.mem_of_getElem? (i := 0) rfl
    | 5, hv => cases hv
    | 6, hv => cases hv
    | 7, hv => cases hv
    | i + 8, hv => cases hv

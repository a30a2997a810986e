/-! ===== printed by wip/gen/emit_world.py: the memory at the start ===== -/
def I0 : sm_MI := fun k => if k = 0 then upd (fun _ => 0) 8 (-1) else if k = 21 then upd (fun _ => 0) 2 4 else if k = 41 then upd (fun _ => 0) 2 4 else if k = 61 then upd (upd (fun _ => 0) 3 4) 17 (-1) else if k = 70 then upd (upd (upd (upd (fun _ => 0) 0 (-1)) 1 (-1)) 2 (-1)) 3 (-1) else fun _ => 0
def J0 : sm_MJ := fun _ _ => 0
theorem st_nil {i s : Nat} {P : Prop} (h : ([] : List Nat)[i]? = some s) : P := by simp at h
theorem st_fu {r i : Nat} : fu A0 r 0 i = false := by
  unfold fu
  rw [show decide (i < A0 0 0) = false from decide_eq_false (by show ¬ i < 0; omega)]
  rfl
theorem st_stR {m c : Nat → Int32} (h0 : c 0 = 0) (h1 : c 1 = 0) (h2 : c 2 = 0) (h3 : m 14 = c 3) (h4 : m 15 = c 4) : stR 0 m c :=
  ⟨fun i _ => by rw [h0, h1, h2]; exact ⟨bt_0', bt_0', bt_0'⟩, fun s hs => absurd hs (Nat.not_lt_zero s), h3, h4⟩
theorem Rel_0 : Rel A0 R0 21 I0 I0 := by
  have n0 : ∀ {s : Nat} {P : Prop}, s < 0 → P := fun h => absurd h (Nat.not_lt_zero _)
  refine ⟨⟨wA_0, rW_0, ⟨by decide, by decide, by decide, fun s hs => n0 hs, fun r hr => ⟨rfl, rfl, fun i hi => n0 hi, (bs_false fun i _ => st_fu).symm, fun h => n0 h⟩, fun k _ => rfl, fun k _ => rfl⟩, ?_, ⟨by decide, by decide, by decide, fun s hs => n0 hs, fun r hr => ⟨rfl, fun h => n0 h⟩⟩, ?_⟩, ?_, ?_, rfl, fun k _ => rfl, ?_, Or.inl rfl⟩
  · exact fun ρ _ => ⟨0, rfl, rfl, by show 0 + 0 ≤ 700; omega, fun i s h => st_nil h⟩
  · intro ρ hρ
    refine ⟨fun _ => ?_, fun z => absurd rfl z⟩
    rcases (by omega : ρ = 0 ∨ ρ = 1 ∨ ρ = 2 ∨ ρ = 3) with rfl | rfl | rfl | rfl <;> rfl
  · exact ⟨st_stR rfl rfl rfl rfl rfl, ⟨0, by omega, rfl, rfl, fun j hj => n0 hj⟩, 0, by omega, rfl, rfl, fun k hk => n0 hk⟩
  · exact ⟨rfl, Or.inl rfl⟩
  · exact ⟨0, by omega, rfl, rfl, fun j hj => n0 hj⟩
/-- the places' cells, one behind the other -/
def sm_wz (cA : Nat → ClassId) (ρ : Nat → Nat) (M : sm_M) : Nat → List (Nat × Nat) → va_W
  | _, [] => []
  | k, s :: r => (ρ k, sm_cell cA ρ M k s) :: sm_wz cA ρ M (k + 1) r
theorem sm_wz_eq {cA : Nat → ClassId} {ρ : Nat → Nat} {M : sm_M} : ∀ (sh : List (Nat × Nat)) (k : Nat), sh.mapIdx (fun i s => (ρ (k + i), sm_cell cA ρ M (k + i) s)) = sm_wz cA ρ M k sh
  | [], _ => rfl
  | s :: r, k => by
    rw [List.mapIdx_cons, sm_wz, ← sm_wz_eq r (k + 1)]
    simp only [Nat.add_zero, Nat.add_assoc, Nat.add_comm 1]
theorem sm_ws_wz {cA : Nat → ClassId} {ρ : Nat → Nat} {M : sm_M} {sh : List (Nat × Nat)} : sm_ws sh cA ρ M = sm_wz cA ρ M 0 sh := by
  rw [← sm_wz_eq]
  simp only [sm_ws, Nat.zero_add]
theorem wz_cons {cA : Nat → ClassId} {ρ : Nat → Nat} {M : sm_M} {k a : Nat} {s : Nat × Nat} {e : va_E} {r : List (Nat × Nat)} {l : va_W} (h1 : ρ k = a) (h2 : sm_cell cA ρ M k s = e) (h3 : sm_wz cA ρ M (k + 1) r = l) : sm_wz cA ρ M k (s :: r) = (a, e) :: l := by
  rw [sm_wz, h1, h2, h3]
def sm_fz (ρ : Nat → Nat) (M : sm_M) (k : Nat) : Nat → List Nat → List Value
  | _, [] => []
  | j, kd :: r => sm_f1 ρ M k j kd :: sm_fz ρ M k (j + 1) r
theorem sm_fz_eq {ρ : Nat → Nat} {M : sm_M} {k : Nat} : ∀ (ks : List Nat) (j : Nat), ks.mapIdx (fun i kd => sm_f1 ρ M k (j + i) kd) = sm_fz ρ M k j ks
  | [], _ => rfl
  | s :: r, j => by
    rw [List.mapIdx_cons, sm_fz, ← sm_fz_eq r (j + 1)]
    simp only [Nat.add_zero, Nat.add_assoc, Nat.add_comm 1]
theorem sm_fv_fz {ρ : Nat → Nat} {M : sm_M} {k : Nat} {ks : List Nat} : sm_fv ρ M k ks = sm_fz ρ M k 0 ks := by
  rw [← sm_fz_eq]
  simp only [sm_fv, Nat.zero_add]
theorem wz_obj {cA : Nat → ClassId} {ρ : Nat → Nat} {M : sm_M} {k a ci N : Nat} {fs : List Value} {r : List (Nat × Nat)} {l : va_W} (hci : ci < 8) (h1 : ρ k = a) (h2 : sm_fz ρ M k 0 (sm_fk.getD ci []) = fs) (h3 : sm_wz cA ρ M (k + 1) r = l) : sm_wz cA ρ M k ((ci, N) :: r) = (a, .inr (ci, fs)) :: l := by
  rw [sm_wz, h1, sm_cell_obj hci, sm_fv_fz, h2, h3]
def rho (b tx : Nat) (as : List Nat) : Nat → Nat := fun k => if k = 1000000 then b else if k = 1000001 then tx else as.getD k 0
def ws_97 (cA : Nat → ClassId) (a0 a1 a2 a3 a4 a5 a6 a7 a8 a9 a10 a11 a12 a13 a14 a15 a16 a17 a18 a19 a20 a21 a22 a23 a24 a25 a26 a27 a28 a29 a30 a31 a32 a33 a34 a35 a36 a37 a38 a39 a40 a41 a42 a43 a44 a45 a46 a47 a48 a49 a50 a51 a52 a53 a54 a55 a56 a57 a58 a59 a60 a61 a62 a63 a64 a65 a66 a67 a68 a69 a70 a71 a72 a73 a74 a75 a76 a77 a78 a79 a80 a81 a82 a83 a84 a85 a86 a87 a88 a89 a90 a91 a92 a93 a94 a95 a96 : Nat) : va_W := [(a0, .inr (6, [.ref a1, .ref a2, .ref a3, .ref a8, .ref a14, .ref a20, .ref a21, .ref a41, .int (-1), .int 0])), cz_ai cA 0 a1 3, cz_ai cA 0 a2 15, (a3, .inr (1, [.ref a4, .int 0, .int 0, .int 0, .int 0, .int 0, .int 0, .int 0])), (a4, .inr (4, [.ref a5, .int 0, .ref a6, .ref a7, .int 0, .int 0])), cz_ai cA 0 a5 700, cz_ai cA 0 a6 700, cz_ai cA 0 a7 700, (a8, .inr (0, [.ref a9, .ref a10, .int 0, .ref a11, .ref a12, .ref a13, .int 0])), (a9, .inr (3, [.int 0, .int 0, .int 0, .int 0, .int 0])), cz_ai cA 0 a10 200, cz_ai cA 0 a11 8, cz_ai cA 0 a12 8, cz_ai cA 0 a13 8, (a14, .inr (0, [.ref a15, .ref a16, .int 0, .ref a17, .ref a18, .ref a19, .int 0])), (a15, .inr (3, [.int 0, .int 0, .int 0, .int 0, .int 0])), cz_ai cA 0 a16 200, cz_ai cA 0 a17 8, cz_ai cA 0 a18 8, cz_ai cA 0 a19 8, (a20, .inr (3, [.int 0, .int 0, .int 0, .int 0, .int 0])), (a21, .inr (5, [.int 0, .int 0, .int 4, .ref a22, .ref a23, .ref a24, .ref a25, .ref a26, .ref a27, .ref a28, .ref a29, .ref a30, .ref a31, .ref a32, .ref a33, .ref a34, .ref a35])), cz_ai cA 0 a22 14, cz_ai cA 0 a23 14, cz_ai cA 0 a24 14, cz_ai cA 0 a25 14, cz_ai cA 0 a26 14, cz_ai cA 0 a27 20, cz_ai cA 0 a28 20, cz_ai cA 0 a29 240, cz_ai cA 0 a30 20, cz_ai cA 0 a31 20, cz_ai cA 0 a32 20, cz_ai cA 0 a33 3, cz_ai cA 0 a34 4, (a35, .inr (2, [.ref a36, .int 0, .ref a37, .ref a38, .ref a39, .ref a40])), cz_ai cA 0 a36 700, cz_ai cA 0 a37 4, cz_ai cA 0 a38 4, cz_ai cA 0 a39 6, cz_ai cA 0 a40 64, (a41, .inr (5, [.int 0, .int 0, .int 4, .ref a42, .ref a43, .ref a44, .ref a45, .ref a46, .ref a47, .ref a48, .ref a49, .ref a50, .ref a51, .ref a52, .ref a53, .ref a54, .ref a55])), cz_ai cA 0 a42 14, cz_ai cA 0 a43 14, cz_ai cA 0 a44 14, cz_ai cA 0 a45 14, cz_ai cA 0 a46 14, cz_ai cA 0 a47 20, cz_ai cA 0 a48 20, cz_ai cA 0 a49 240, cz_ai cA 0 a50 20, cz_ai cA 0 a51 20, cz_ai cA 0 a52 20, cz_ai cA 0 a53 3, cz_ai cA 0 a54 4, (a55, .inr (2, [.ref a56, .int 0, .ref a57, .ref a58, .ref a59, .ref a60])), cz_ai cA 0 a56 700, cz_ai cA 0 a57 4, cz_ai cA 0 a58 4, cz_ai cA 0 a59 6, cz_ai cA 0 a60 64, (a61, .inr (7, [.int 0, .int 0, .int 0, .int 4, .ref a62, .ref a63, .ref a64, .ref a65, .ref a66, .ref a67, .ref a68, .ref a69, .ref a70, .ref a71, .ref a72, .int 0, .int 0, .int (-1), .ref a73, .int 0, .int 0, .int 0, .int 0, .int 0, .int 0, .int 0, .long 0, .int 0, .int 0, .int 0, .int 0, .int 0, .int 0, .int 0, .int 0, .ref a74, .ref a75, .ref a76, .ref a77, .ref a78, .ref a79, .ref a80, .ref a81, .ref a82, .ref a83, .ref a84, .ref a85, .ref a86, .ref a87, .ref a88, .int 0, .ref a89, .ref a90, .int 0, .ref a91, .ref a92, .int 0, .int 0, .int 0, .int 0, .ref a93, .ref a94, .ref a95])), cz_ai cA 0 a62 14, cz_ai cA 0 a63 14, cz_ai cA 0 a64 14, cz_ai cA 0 a65 14, cz_ai cA 0 a66 14, cz_ai cA 0 a67 20, cz_ai cA 0 a68 20, cz_ai cA 0 a69 240, (a70, .inl (cA 0, 4, .inl (upd (upd (upd (upd (fun _ => 0) 0 (-1)) 1 (-1)) 2 (-1)) 3 (-1)))), cz_ai cA 0 a71 2800, cz_ai cA 0 a72 700, cz_ai cA 0 a73 3, cz_ai cA 0 a74 14, cz_ai cA 0 a75 14, cz_ai cA 0 a76 14, cz_ai cA 0 a77 14, cz_ai cA 0 a78 14, cz_ai cA 0 a79 20, cz_ai cA 0 a80 20, cz_ai cA 0 a81 240, cz_ai cA 0 a82 4, cz_ai cA 0 a83 2800, cz_ai cA 0 a84 950, cz_ai cA 1 a85 9, cz_ai cA 0 a86 16, cz_ai cA 0 a87 16, cz_ai cA 0 a88 640, cz_ai cA 0 a89 10, cz_ai cA 0 a90 950, cz_ai cA 0 a91 24, cz_ai cA 0 a92 8, cz_ai cA 0 a93 16, cz_ai cA 0 a94 640, cz_ai cA 0 a95 24, (a96, .inl (cA 2, 1, .inr (.inl fun _ => 0)))]
set_option maxRecDepth 100000 in
set_option maxHeartbeats 4000000 in
theorem ws_97_app (cA : Nat → ClassId) (a0 a1 a2 a3 a4 a5 a6 a7 a8 a9 a10 a11 a12 a13 a14 a15 a16 a17 a18 a19 a20 a21 a22 a23 a24 a25 a26 a27 a28 a29 a30 a31 a32 a33 a34 a35 a36 a37 a38 a39 a40 a41 a42 a43 a44 a45 a46 a47 a48 a49 a50 a51 a52 a53 a54 a55 a56 a57 a58 a59 a60 a61 a62 a63 a64 a65 a66 a67 a68 a69 a70 a71 a72 a73 a74 a75 a76 a77 a78 a79 a80 a81 a82 a83 a84 a85 a86 a87 a88 a89 a90 a91 a92 a93 a94 a95 a96 : Nat) : (([] ++ (ws_VM cA a0 a1 a2 a3 (ws_Reader cA a3 a4 (ws_Tape cA a4 a5 a6 a7)) a8 (ws_Chronicle cA a8 a9 (ws_State cA a9) a10 a11 a12 a13) a14 (ws_Chronicle cA a14 a15 (ws_State cA a15) a16 a17 a18 a19) a20 (ws_State cA a20) a21 (ws_Valley cA a21 a22 a23 a24 a25 a26 a27 a28 a29 a30 a31 a32 a33 a34 a35 (ws_Rules cA a35 a36 a37 a38 a39 a40)) a41 (ws_Valley cA a41 a42 a43 a44 a45 a46 a47 a48 a49 a50 a51 a52 a53 a54 a55 (ws_Rules cA a55 a56 a57 a58 a59 a60)))) ++ (ws_Mo cA a61 a62 a63 a64 a65 a66 a67 a68 a69 a70 a71 a72 a73 a74 a75 a76 a77 a78 a79 a80 a81 a82 a83 a84 a85 a86 a87 a88 a89 a90 a91 a92 a93 a94 a95)) ++ [(a96, .inl (cA 2, 1, .inr (.inl fun _ => 0)))] = ws_97 cA a0 a1 a2 a3 a4 a5 a6 a7 a8 a9 a10 a11 a12 a13 a14 a15 a16 a17 a18 a19 a20 a21 a22 a23 a24 a25 a26 a27 a28 a29 a30 a31 a32 a33 a34 a35 a36 a37 a38 a39 a40 a41 a42 a43 a44 a45 a46 a47 a48 a49 a50 a51 a52 a53 a54 a55 a56 a57 a58 a59 a60 a61 a62 a63 a64 a65 a66 a67 a68 a69 a70 a71 a72 a73 a74 a75 a76 a77 a78 a79 a80 a81 a82 a83 a84 a85 a86 a87 a88 a89 a90 a91 a92 a93 a94 a95 a96 := by
  simp only [ws_VM, ws_Reader, ws_Tape, ws_Chronicle, ws_State, ws_Valley, ws_Rules, ws_Mo, ws_97, List.append_assoc, List.cons_append, List.nil_append]
set_option maxRecDepth 100000 in
set_option maxHeartbeats 4000000 in
theorem ws_97_eq (cA : Nat → ClassId) (b tx : Nat) (a0 a1 a2 a3 a4 a5 a6 a7 a8 a9 a10 a11 a12 a13 a14 a15 a16 a17 a18 a19 a20 a21 a22 a23 a24 a25 a26 a27 a28 a29 a30 a31 a32 a33 a34 a35 a36 a37 a38 a39 a40 a41 a42 a43 a44 a45 a46 a47 a48 a49 a50 a51 a52 a53 a54 a55 a56 a57 a58 a59 a60 a61 a62 a63 a64 a65 a66 a67 a68 a69 a70 a71 a72 a73 a74 a75 a76 a77 a78 a79 a80 a81 a82 a83 a84 a85 a86 a87 a88 a89 a90 a91 a92 a93 a94 a95 a96 : Nat) : sm_ws sm_sh cA (rho b tx [a0, a1, a2, a3, a4, a5, a6, a7, a8, a9, a10, a11, a12, a13, a14, a15, a16, a17, a18, a19, a20, a21, a22, a23, a24, a25, a26, a27, a28, a29, a30, a31, a32, a33, a34, a35, a36, a37, a38, a39, a40, a41, a42, a43, a44, a45, a46, a47, a48, a49, a50, a51, a52, a53, a54, a55, a56, a57, a58, a59, a60, a61, a62, a63, a64, a65, a66, a67, a68, a69, a70, a71, a72, a73, a74, a75, a76, a77, a78, a79, a80, a81, a82, a83, a84, a85, a86, a87, a88, a89, a90, a91, a92, a93, a94, a95, a96]) (I0, J0, sm_rf 21 41) = ws_97 cA a0 a1 a2 a3 a4 a5 a6 a7 a8 a9 a10 a11 a12 a13 a14 a15 a16 a17 a18 a19 a20 a21 a22 a23 a24 a25 a26 a27 a28 a29 a30 a31 a32 a33 a34 a35 a36 a37 a38 a39 a40 a41 a42 a43 a44 a45 a46 a47 a48 a49 a50 a51 a52 a53 a54 a55 a56 a57 a58 a59 a60 a61 a62 a63 a64 a65 a66 a67 a68 a69 a70 a71 a72 a73 a74 a75 a76 a77 a78 a79 a80 a81 a82 a83 a84 a85 a86 a87 a88 a89 a90 a91 a92 a93 a94 a95 a96 := by
  rw [sm_ws_wz]
  unfold sm_sh ws_97
  refine wz_obj (k := 0) (by omega) rfl rfl ?_
  refine wz_cons (k := 1) rfl rfl ?_
  refine wz_cons (k := 2) rfl rfl ?_
  refine wz_obj (k := 3) (by omega) rfl rfl ?_
  refine wz_obj (k := 4) (by omega) rfl rfl ?_
  refine wz_cons (k := 5) rfl rfl ?_
  refine wz_cons (k := 6) rfl rfl ?_
  refine wz_cons (k := 7) rfl rfl ?_
  refine wz_obj (k := 8) (by omega) rfl rfl ?_
  refine wz_obj (k := 9) (by omega) rfl rfl ?_
  refine wz_cons (k := 10) rfl rfl ?_
  refine wz_cons (k := 11) rfl rfl ?_
  refine wz_cons (k := 12) rfl rfl ?_
  refine wz_cons (k := 13) rfl rfl ?_
  refine wz_obj (k := 14) (by omega) rfl rfl ?_
  refine wz_obj (k := 15) (by omega) rfl rfl ?_
  refine wz_cons (k := 16) rfl rfl ?_
  refine wz_cons (k := 17) rfl rfl ?_
  refine wz_cons (k := 18) rfl rfl ?_
  refine wz_cons (k := 19) rfl rfl ?_
  refine wz_obj (k := 20) (by omega) rfl rfl ?_
  refine wz_obj (k := 21) (by omega) rfl rfl ?_
  refine wz_cons (k := 22) rfl rfl ?_
  refine wz_cons (k := 23) rfl rfl ?_
  refine wz_cons (k := 24) rfl rfl ?_
  refine wz_cons (k := 25) rfl rfl ?_
  refine wz_cons (k := 26) rfl rfl ?_
  refine wz_cons (k := 27) rfl rfl ?_
  refine wz_cons (k := 28) rfl rfl ?_
  refine wz_cons (k := 29) rfl rfl ?_
  refine wz_cons (k := 30) rfl rfl ?_
  refine wz_cons (k := 31) rfl rfl ?_
  refine wz_cons (k := 32) rfl rfl ?_
  refine wz_cons (k := 33) rfl rfl ?_
  refine wz_cons (k := 34) rfl rfl ?_
  refine wz_obj (k := 35) (by omega) rfl rfl ?_
  refine wz_cons (k := 36) rfl rfl ?_
  refine wz_cons (k := 37) rfl rfl ?_
  refine wz_cons (k := 38) rfl rfl ?_
  refine wz_cons (k := 39) rfl rfl ?_
  refine wz_cons (k := 40) rfl rfl ?_
  refine wz_obj (k := 41) (by omega) rfl rfl ?_
  refine wz_cons (k := 42) rfl rfl ?_
  refine wz_cons (k := 43) rfl rfl ?_
  refine wz_cons (k := 44) rfl rfl ?_
  refine wz_cons (k := 45) rfl rfl ?_
  refine wz_cons (k := 46) rfl rfl ?_
  refine wz_cons (k := 47) rfl rfl ?_
  refine wz_cons (k := 48) rfl rfl ?_
  refine wz_cons (k := 49) rfl rfl ?_
  refine wz_cons (k := 50) rfl rfl ?_
  refine wz_cons (k := 51) rfl rfl ?_
  refine wz_cons (k := 52) rfl rfl ?_
  refine wz_cons (k := 53) rfl rfl ?_
  refine wz_cons (k := 54) rfl rfl ?_
  refine wz_obj (k := 55) (by omega) rfl rfl ?_
  refine wz_cons (k := 56) rfl rfl ?_
  refine wz_cons (k := 57) rfl rfl ?_
  refine wz_cons (k := 58) rfl rfl ?_
  refine wz_cons (k := 59) rfl rfl ?_
  refine wz_cons (k := 60) rfl rfl ?_
  refine wz_obj (k := 61) (by omega) rfl rfl ?_
  refine wz_cons (k := 62) rfl rfl ?_
  refine wz_cons (k := 63) rfl rfl ?_
  refine wz_cons (k := 64) rfl rfl ?_
  refine wz_cons (k := 65) rfl rfl ?_
  refine wz_cons (k := 66) rfl rfl ?_
  refine wz_cons (k := 67) rfl rfl ?_
  refine wz_cons (k := 68) rfl rfl ?_
  refine wz_cons (k := 69) rfl rfl ?_
  refine wz_cons (k := 70) rfl rfl ?_
  refine wz_cons (k := 71) rfl rfl ?_
  refine wz_cons (k := 72) rfl rfl ?_
  refine wz_cons (k := 73) rfl rfl ?_
  refine wz_cons (k := 74) rfl rfl ?_
  refine wz_cons (k := 75) rfl rfl ?_
  refine wz_cons (k := 76) rfl rfl ?_
  refine wz_cons (k := 77) rfl rfl ?_
  refine wz_cons (k := 78) rfl rfl ?_
  refine wz_cons (k := 79) rfl rfl ?_
  refine wz_cons (k := 80) rfl rfl ?_
  refine wz_cons (k := 81) rfl rfl ?_
  refine wz_cons (k := 82) rfl rfl ?_
  refine wz_cons (k := 83) rfl rfl ?_
  refine wz_cons (k := 84) rfl rfl ?_
  refine wz_cons (k := 85) rfl rfl ?_
  refine wz_cons (k := 86) rfl rfl ?_
  refine wz_cons (k := 87) rfl rfl ?_
  refine wz_cons (k := 88) rfl rfl ?_
  refine wz_cons (k := 89) rfl rfl ?_
  refine wz_cons (k := 90) rfl rfl ?_
  refine wz_cons (k := 91) rfl rfl ?_
  refine wz_cons (k := 92) rfl rfl ?_
  refine wz_cons (k := 93) rfl rfl ?_
  refine wz_cons (k := 94) rfl rfl ?_
  refine wz_cons (k := 95) rfl rfl ?_
  refine wz_cons (k := 96) rfl rfl ?_
  rfl

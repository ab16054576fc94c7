set_option maxRecDepth 20000 in
theorem tw_484 : (Jvm.Cond.native ({ cls := "java/lang/Object", name := "getClass", desc := "()Ljava/lang/Class;" } : Jvm.MethodName)) ∈ TT := tt_of (i := 484) rfl rfl
set_option maxRecDepth 20000 in
theorem tw_494 : (Jvm.Cond.native arraycopyName) ∈ TT := tt_of (i := 494) rfl rfl
theorem zmx {k : Nat} (h1 : 2 ≤ k) (h2 : k < 2 ^ 31) : (if (1 : Int32) < nI k then nI k else 1) = nI k := if_pos (by rw [show (1 : Int32) = nI 1 by decide]; exact nI_lt (by omega) h2)
theorem zmn {a b : Nat} (h1 : a ≤ b) (h2 : b < 2 ^ 31) : (if nI b < nI a then nI b else nI a) = nI a := if_neg (nI_nlt h1 h2)
theorem zsr {n : Nat} (h : n < 1000) : nI n >>> ((1 : Int32) &&& 31) = nI (n / 2) := by
  have : ∀ n, n < 1000 → nI n >>> ((1 : Int32) &&& 31) = nI (n / 2) := by decide +kernel
  exact this n h
theorem zm10 {k : Nat} (h : k ≤ 10) : (if (10 : Int32) < nI k then nI k else 10) = nI 10 := if_neg (by rw [show (10 : Int32) = nI 10 by decide]; exact nI_nlt h (by decide))
set_option maxHeartbeats 4000000 in
set_option maxRecDepth 100000 in
theorem c_S_newLength (l : Launch) {D : va_G} {tys : List (ClassId × FieldType)} {ws : va_W} {H : Heap} (hP : va_P D vwCl ws H) (n k : Nat) (hk : 2 ≤ k) (hnk : n + k < 1000) : Met l y_S_newLength (Cond.code y_S_newLength b_S_newLength 4 (some .int) :: TT) ({ frames := 2, cells := 0, slots := 0, locals := 120 }) (zPc [.int (nI n), .int 1, .int (nI k)] H D vwCl tys) (zQi (nI (n + k)) H) 0 0 (fun _ => False) := by
  refine z_body (by decide) (Nat.le_of_ble_eq_true rfl) ?_
  intro p e s m below meth c ls C0 hH hKN hl
  obtain ⟨hx, hb, hr, hts, hown, hlocks, hml⟩ := C0
  subst hH
  have hK := hKN.1
  have hN := hKN.2
  have hS : va_S (fun _ => False) s.heap s.heap [] := va_S.rf
  have hl : lv_has ls 4 [(0, .int (nI n)), (1, .int 1), (2, .int (nI k))] := hl
  refine lv_iload_n hx hb d_S_newLength_0 rfl (zl hl rfl) ?_
  refine lv_iload_n hx hb d_S_newLength_1 rfl (zl hl rfl) ?_
  refine lv_iload_n hx hb d_S_newLength_2 rfl (zl hl rfl) ?_
  refine va_mmax hx hb (hml.trans hl.1.symm) hown (hts _ tw_462) (hts _ tw_463) (hts _ tw_46) (hts _ tw_464) (Nat.le_of_ble_eq_true rfl) (Nat.le_of_ble_eq_true rfl) (Nat.le_of_ble_eq_true rfl) (Nat.le_of_ble_eq_true rfl) d_S_newLength_3 ?_
  refine z_top (y := nI k) (zmx hk (by omega)) ?_
  refine lv_iadd hx hb d_S_newLength_6 ?_
  refine z_top (y := nI (n + k)) (nI_add n k) ?_
  refine lv_istore_n (lv' := [(3, .int (nI (n + k))), (0, .int (nI n)), (1, .int 1), (2, .int (nI k))]) hx hb d_S_newLength_7 rfl hl (by decide) rfl (fun ls hl => ?_)
  refine lv_iconst (v := 0) hx hb d_S_newLength_8 (by decide) ?_
  refine lv_iload_n hx hb d_S_newLength_9 rfl (zl hl rfl) ?_
  refine lv_icmp_ge (tgt := 21) hx hb d_S_newLength_10 (by decide) (fun c_1 => ?_) (fun c_1 => ?_)
  · exact absurd c_1 (by rw [show (0 : Int32) = nI 0 by decide]; exact nI_nle (by omega) (by omega))
  · refine lv_iload_n hx hb d_S_newLength_13 rfl (zl hl rfl) ?_
    refine lv_ldc (v := 2147483639) hx hb hown (hts _ (tw_465)) d_S_newLength_14 ?_
    refine lv_icmp_gt (tgt := 21) hx hb d_S_newLength_16 (by decide) (fun c_2 => ?_) (fun c_2 => ?_)
    · exact absurd c_2 (by rw [show (2147483639 : Int32) = nI 2147483639 by decide]; exact nI_nlt (by omega) (by decide))
    · refine lv_iload_n hx hb d_S_newLength_19 rfl (zl hl rfl) ?_
      exact z_iret hx hb hr hlocks hS (rfl) d_S_newLength_20
set_option maxHeartbeats 4000000 in
set_option maxRecDepth 100000 in
theorem c_Y_copyOf3 (l : Launch) {D : va_G} {kk : Nat → ClassId} {ws : va_W} {H : Heap} {e0 mi B : Nat} (hP : va_P D vwCl ws H) (hD : va_D (fun q => B ≤ q) ws) (hB : B ≤ H.size) {ea cap : Nat} {arr : Nat → Option Nat} (he : zin ws ea (.inl (kk 4, cap, .inr (.inr (.inr (.inr arr)))))) (N : Nat) (hcN : cap ≤ N) (hN2 : N ≤ 600) (hel : ∀ i, i < cap → ∀ y, arr i = some y → ∃ vs, zin ws y (.inr (2, vs))) : Met l y_Y_copyOf3 (Cond.code y_Y_copyOf3 b_Y_copyOf3 4 (some (.array (.object "java/lang/Object"))) :: TT) ({ frames := 2, cells := 1, slots := 600, locals := 120 }) (zPa [.ref ea, .int (nI N), .ref mi] H D vwCl (TY kk) e0 mi B) (zRr D vwCl B (fun q ws' => zin ws' q (.inl (kk 4, N, .inr (.inr (.inr (.inr (va_cpy arr (fun _ => none) 0 0 cap)))))) ∧ (∀ (b : Nat) (f : va_E), zin ws b f → zin ws' b f) ∧ ∀ (b : Nat) (f : va_E), zin ws b f → b ≠ q)) 1 600 (fun q => B ≤ q) := by
  refine z_bodyA (by decide) (Nat.le_of_ble_eq_true rfl) ?_
  intro p e s m below meth c ls C0 hnm hH hKN hZA hl
  obtain ⟨hx, hb, hr, hts, hown, hlocks, hml⟩ := C0
  subst hH
  have hK := hKN.1
  have hN := hKN.2
  have hS : va_S (fun q => B ≤ q) s.heap s.heap [] := va_S.rf
  have hA0 : ∀ q : Nat, s.heap.size ≤ q → (fun q => B ≤ q) q := fun q h => Nat.le_trans hB h
  have hl : lv_has ls 4 [(0, .ref ea), (1, .int (nI N)), (2, .ref mi)] := hl
  refine lv_aload_n hx hb d_Y_copyOf3_0 rfl (zl hl rfl) ?_
  refine va_ldcM hx hb hown (hts _ tw_488) hZA.2.2.1 d_Y_copyOf3_1 ?_
  refine lv_acmp_ne (tgt := 13) (rx := (some mi)) (ry := (some mi)) hx hb d_Y_copyOf3_3 (by decide) (fun c_1 => ?_) (fun c_1 => ?_)
  · exact absurd rfl c_1
  · refine lv_iload_n hx hb d_Y_copyOf3_6 rfl (zl hl rfl) ?_
    refine z_newq (C := "java/lang/Object") hx hb hts hown tw_490 hZA.1.1 hK hP hD hS hA0 4 rfl N rfl (by omega) (Nat.le_of_ble_eq_true rfl) (by show 0 + N ≤ 600; omega) d_Y_copyOf3_7 (fun q ws1 H hP hD hS u hne hq => ?_)
    refine W.widen (k := 1) (n := 600) (Nat.le_of_ble_eq_true rfl) (by show 0 + N ≤ 600; omega) ?_
    refine lv_goto (tgt := 24) hx hb d_Y_copyOf3_10 (by decide) ?_
    refine lv_astore_n (lv' := [(3, .ref q), (0, .ref ea), (1, .int (nI N)), (2, .ref mi)]) hx hb d_Y_copyOf3_24 rfl hl (by decide) rfl (fun ls hl => ?_)
    refine lv_aload_n hx hb d_Y_copyOf3_25 rfl (zl hl rfl) ?_
    refine lv_iconst (v := 0) hx hb d_Y_copyOf3_26 (by decide) ?_
    refine lv_aload_n hx hb d_Y_copyOf3_27 rfl (zl hl rfl) ?_
    refine lv_iconst (v := 0) hx hb d_Y_copyOf3_28 (by decide) ?_
    refine lv_aload_n hx hb d_Y_copyOf3_29 rfl (zl hl rfl) ?_
    refine z_alen hx hb hK hP 4 (u.2 _ _ he) rfl d_Y_copyOf3_30 ?_
    refine lv_iload_n hx hb d_Y_copyOf3_31 rfl (zl hl rfl) ?_
    refine va_mmin hx hb (hml.trans hl.1.symm) hown (hts _ tw_491) (hts _ tw_260) (hts _ tw_46) (hts _ tw_261) (Nat.le_of_ble_eq_true rfl) (Nat.le_of_ble_eq_true rfl) (Nat.le_of_ble_eq_true rfl) (Nat.le_of_ble_eq_true rfl) d_Y_copyOf3_32 ?_
    refine z_top (y := nI cap) (zmn hcN (by omega)) ?_
    refine z_copy hx hb (hml.trans hl.1.symm) hts hown tw_492 tw_494 tw_493 tw_48 hK hP hD hS hZA.2.2.2.2.2 4 rfl (u.2 _ _ he) u.1 rfl hcN (by omega) (fun i hi y hy => by obtain ⟨vs, hv⟩ := hel i hi y hy; exact ⟨vs, u.2 _ _ hv⟩) (Nat.le_of_ble_eq_true rfl) (Nat.le_of_ble_eq_true rfl) d_Y_copyOf3_35 (fun ws2 H locs hP hD hS u2 => ?_)
    refine lv_aload_n hx hb d_Y_copyOf3_38 rfl (zl hl rfl) ?_
    exact z_aretR hx hb hr (Or.inr ⟨_, rfl⟩) hlocks hP hD hS ⟨u2.1, fun b f h => u2.2 _ _ (hne b f h) (u.2 _ _ h), hne⟩ d_Y_copyOf3_39
set_option maxHeartbeats 4000000 in
set_option maxRecDepth 100000 in
theorem c_Y_copyOf (l : Launch) {D : va_G} {kk : Nat → ClassId} {ws : va_W} {H : Heap} {e0 mi B : Nat} (hP : va_P D vwCl ws H) (hD : va_D (fun q => B ≤ q) ws) (hB : B ≤ H.size) {ea cap : Nat} {arr : Nat → Option Nat} (he : zin ws ea (.inl (kk 4, cap, .inr (.inr (.inr (.inr arr)))))) (N : Nat) (hcN : cap ≤ N) (hN2 : N ≤ 600) (hel : ∀ i, i < cap → ∀ y, arr i = some y → ∃ vs, zin ws y (.inr (2, vs))) : Met l y_Y_copyOf (Cond.code y_Y_copyOf b_Y_copyOf 2 (some (.array (.object "java/lang/Object"))) :: TT) ({ frames := 3, cells := 1, slots := 600, locals := 180 }) (zPa [.ref ea, .int (nI N)] H D vwCl (TY kk) e0 mi B) (zRr D vwCl B (fun q ws' => zin ws' q (.inl (kk 4, N, .inr (.inr (.inr (.inr (va_cpy arr (fun _ => none) 0 0 cap)))))) ∧ (∀ (b : Nat) (f : va_E), zin ws b f → zin ws' b f) ∧ ∀ (b : Nat) (f : va_E), zin ws b f → b ≠ q)) 1 600 (fun q => B ≤ q) := by
  refine z_bodyA (by decide) (Nat.le_of_ble_eq_true rfl) ?_
  intro p e s m below meth c ls C0 hnm hH hKN hZA hl
  obtain ⟨hx, hb, hr, hts, hown, hlocks, hml⟩ := C0
  subst hH
  have hK := hKN.1
  have hN := hKN.2
  have hS : va_S (fun q => B ≤ q) s.heap s.heap [] := va_S.rf
  have hA0 : ∀ q : Nat, s.heap.size ≤ q → (fun q => B ≤ q) q := fun q h => Nat.le_trans hB h
  have hl : lv_has ls 2 [(0, .ref ea), (1, .int (nI N))] := hl
  refine lv_aload_n hx hb d_Y_copyOf_0 rfl (zl hl rfl) ?_
  refine lv_iload_n hx hb d_Y_copyOf_1 rfl (zl hl rfl) ?_
  refine lv_aload_n hx hb d_Y_copyOf_2 rfl (zl hl rfl) ?_
  refine va_getC (C := "[Ljava/lang/Object;") hx hb (hml.trans hl.1.symm) hown (hts _ tw_472) hZA.2.1.use (hts _ tw_742) (hts _ tw_473) (hts _ tw_484) hZA.2.2.1 ?_ (Nat.le_of_ble_eq_true rfl) (Nat.le_of_ble_eq_true rfl) d_Y_copyOf_3 ?_
  · have z1 := z_P hP he 0 _ rfl
    exact ⟨_, z1, rfl, va_nmO (hK.2 4 _ rfl).2 rfl⟩
  refine z_callr (va_runS (As := [.ref ea, .int (nI N), .ref mi]) (rest := []) ⟨hx, hb, hml, hown, hts⟩ (c_Y_copyOf3 l hP hD hB he N hcN hN2 hel) (va_cwS 3 hts (tt_S tw_487 tw_485 tw_486 tw_47) rfl rfl rfl (by decide +kernel) ⟨Nat.le_of_ble_eq_true rfl, Nat.le_of_ble_eq_true rfl⟩) (zPa_S hKN (hZA.on hS)) rfl rfl hl.1 rfl (lv_room (Nat.le_of_ble_eq_true rfl)) d_Y_copyOf_6 ⟨Nat.le_of_ble_eq_true rfl, Nat.le_of_ble_eq_true rfl⟩) hS (fun q ws1 H locs hR hP hD hS => ?_)
  exact z_aretR hx hb hr (Or.inr ⟨_, rfl⟩) hlocks hP hD hS hR d_Y_copyOf_9

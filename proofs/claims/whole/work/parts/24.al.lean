set_option maxRecDepth 20000 in
theorem tw_484 : (Jvm.Cond.native ({ cls := "java/lang/Object", name := "getClass", desc := "()Ljava/lang/Class;" } : Jvm.MethodName)) ∈ TT := tt_of (i := 484) rfl rfl
set_option maxRecDepth 20000 in
theorem tw_494 : (Jvm.Cond.native arraycopyName) ∈ TT := tt_of (i := 494) rfl rfl
theorem zmx {k : Nat} (h1 : 2 ≤ k) (h2 : k < 2 ^ 31) : (if (1 : Int32) < nI k then nI k else 1) = nI k := if_pos (by rw [show (1 : Int32) = nI 1 by decide]; exact nI_lt (by omega) h2)
theorem zmn {a b : Nat} (h1 : a ≤ b) (h2 : b < 2 ^ 31) : (if nI b < nI a then nI b else nI a) = nI a := if_neg (nI_nlt h1 h2)
theorem zsr {n : Nat} (h : n < 1000) : nI n >>> ((1 : Int32) &&& 31) = nI (n / 2) := by
  have : ∀ n, n < 1000 → nI n >>> ((1 : Int32) &&& 31) = nI (n / 2) := by decide +kernel
  exact this n h
theorem zm10 {k : Nat} (h : k ≤ 10) : (if (10 : Int32) < nI k then nI k else 10) = nI 10 := if_neg (by rw [show (10 : Int32) = nI 10 by decide]; exact nI_nlt h (by decide))
set_option maxHeartbeats 4000000 in
set_option maxRecDepth 100000 in
theorem c_S_newLength (l : Launch) {D : va_G} {tys : List (ClassId × FieldType)} {ws : va_W} {H : Heap} (hP : va_P D vwCl ws H) (n k : Nat) (hk : 2 ≤ k) (hnk : n + k < 1000) : Met l y_S_newLength (Cond.code y_S_newLength b_S_newLength 4 (some .int) :: TT) ({ frames := 2, cells := 0, slots := 0, locals := 80 }) (zPc [.int (nI n), .int 1, .int (nI k)] H D vwCl tys) (zQi (nI (n + k)) H) 0 0 (fun _ => False) := by
  refine z_body (by decide) (Nat.le_of_ble_eq_true rfl) ?_
  intro p e s m below meth c ls C0 hH hKN hl
  obtain ⟨hx, hb, hr, hts, hown, hlocks, hml⟩ := C0
  subst hH
  have hK := hKN.1
  have hN := hKN.2
  have hS : va_S (fun _ => False) s.heap s.heap [] := va_S.rf
  have hl : lv_has ls 4 [(0, .int (nI n)), (1, .int 1), (2, .int (nI k))] := hl
  refine lv_iload_n hx hb d_S_newLength_0 rfl (zl hl rfl) ?_
  refine lv_iload_n hx hb d_S_newLength_1 rfl (zl hl rfl) ?_
  refine lv_iload_n hx hb d_S_newLength_2 rfl (zl hl rfl) ?_
  refine va_mmax hx hb (hml.trans hl.1.symm) hown (hts _ tw_462) (hts _ tw_463) (hts _ tw_46) (hts _ tw_464) (Nat.le_of_ble_eq_true rfl) (Nat.le_of_ble_eq_true rfl) (Nat.le_of_ble_eq_true rfl) (Nat.le_of_ble_eq_true rfl) d_S_newLength_3 ?_
  refine z_top (y := nI k) (zmx hk (by omega)) ?_
  refine lv_iadd hx hb d_S_newLength_6 ?_
  refine z_top (y := nI (n + k)) (nI_add n k) ?_
  refine lv_istore_n (lv' := [(3, .int (nI (n + k))), (0, .int (nI n)), (1, .int 1), (2, .int (nI k))]) hx hb d_S_newLength_7 rfl hl (by decide) rfl (fun ls hl => ?_)
  refine lv_iconst (v := 0) hx hb d_S_newLength_8 (by decide) ?_
  refine lv_iload_n hx hb d_S_newLength_9 rfl (zl hl rfl) ?_
  refine lv_icmp_ge (tgt := 21) hx hb d_S_newLength_10 (by decide) (fun c_1 => ?_) (fun c_1 => ?_)
  · exact absurd c_1 (by rw [show (0 : Int32) = nI 0 by decide]; exact nI_nle (by omega) (by omega))
  · refine lv_iload_n hx hb d_S_newLength_13 rfl (zl hl rfl) ?_
    refine lv_ldc (v := 2147483639) hx hb hown (hts _ (tw_465)) d_S_newLength_14 ?_
    refine lv_icmp_gt (tgt := 21) hx hb d_S_newLength_16 (by decide) (fun c_2 => ?_) (fun c_2 => ?_)
    · exact absurd c_2 (by rw [show (2147483639 : Int32) = nI 2147483639 by decide]; exact nI_nlt (by omega) (by decide))
    · refine lv_iload_n hx hb d_S_newLength_19 rfl (zl hl rfl) ?_
      exact z_iret hx hb hr hlocks hS (rfl) d_S_newLength_20
set_option maxHeartbeats 4000000 in
set_option maxRecDepth 100000 in
theorem c_Y_copyOf3 (l : Launch) {D : va_G} {kk : Nat → ClassId} {ws : va_W} {H : Heap} {e0 mi B : Nat} (hP : va_P D vwCl ws H) (hD : va_D (fun q => B ≤ q) ws) (hB : B ≤ H.size) {ea cap : Nat} {arr : Nat → Option Nat} (he : zin ws ea (.inl (kk 4, cap, .inr (.inr (.inr (.inr arr)))))) (N : Nat) (hcN : cap ≤ N) (hN2 : N ≤ 600) (hel : ∀ i, i < cap → ∀ y, arr i = some y → ∃ vs, zin ws y (.inr (2, vs))) : Met l y_Y_copyOf3 (Cond.code y_Y_copyOf3 b_Y_copyOf3 4 (some (.array (.object "java/lang/Object"))) :: TT) ({ frames := 2, cells := 1, slots := 600, locals := 80 }) (zPa [.ref ea, .int (nI N), .ref mi] H D vwCl (TY kk) e0 mi B) (zRr D vwCl B (fun q ws' => zin ws' q (.inl (kk 4, N, .inr (.inr (.inr (.inr (va_cpy arr (fun _ => none) 0 0 cap)))))) ∧ (∀ (b : Nat) (f : va_E), zin ws b f → zin ws' b f) ∧ ∀ (b : Nat) (f : va_E), zin ws b f → b ≠ q)) 1 600 (fun q => B ≤ q) := by
  refine z_bodyA (by decide) (Nat.le_of_ble_eq_true rfl) ?_
  intro p e s m below meth c ls C0 hnm hH hKN hZA hl
  obtain ⟨hx, hb, hr, hts, hown, hlocks, hml⟩ := C0
  subst hH
  have hK := hKN.1
  have hN := hKN.2
  have hS : va_S (fun q => B ≤ q) s.heap s.heap [] := va_S.rf
  have hA0 : ∀ q : Nat, s.heap.size ≤ q → (fun q => B ≤ q) q := fun q h => Nat.le_trans hB h
  have hl : lv_has ls 4 [(0, .ref ea), (1, .int (nI N)), (2, .ref mi)] := hl
  refine lv_aload_n hx hb d_Y_copyOf3_0 rfl (zl hl rfl) ?_
  refine va_ldcM hx hb hown (hts _ tw_488) hZA.2.2.1 d_Y_copyOf3_1 ?_
  refine lv_acmp_ne (tgt := 13) (rx := (some mi)) (ry := (some mi)) hx hb d_Y_copyOf3_3 (by decide) (fun c_1 => ?_) (fun c_1 => ?_)
  · exact absurd rfl c_1
  · refine lv_iload_n hx hb d_Y_copyOf3_6 rfl (zl hl rfl) ?_
    refine z_newq (C := "java/lang/Object") hx hb hts hown tw_490 hZA.1.1 hK hP hD hS hA0 4 rfl N rfl (by omega) (Nat.le_of_ble_eq_true rfl) (by show 0 + N ≤ 600; omega) d_Y_copyOf3_7 (fun q ws1 H hP hD hS u hne hq => ?_)
    refine W.widen (k := 1) (n := 600) (Nat.le_of_ble_eq_true rfl) (by show 0 + N ≤ 600; omega) ?_
    refine lv_goto (tgt := 24) hx hb d_Y_copyOf3_10 (by decide) ?_
    refine lv_astore_n (lv' := [(3, .ref q), (0, .ref ea), (1, .int (nI N)), (2, .ref mi)]) hx hb d_Y_copyOf3_24 rfl hl (by decide) rfl (fun ls hl => ?_)
    refine lv_aload_n hx hb d_Y_copyOf3_25 rfl (zl hl rfl) ?_
    refine lv_iconst (v := 0) hx hb d_Y_copyOf3_26 (by decide) ?_
    refine lv_aload_n hx hb d_Y_copyOf3_27 rfl (zl hl rfl) ?_
    refine lv_iconst (v := 0) hx hb d_Y_copyOf3_28 (by decide) ?_
    refine lv_aload_n hx hb d_Y_copyOf3_29 rfl (zl hl rfl) ?_
    refine z_alen hx hb hK hP 4 (u.2 _ _ he) rfl d_Y_copyOf3_30 ?_
    refine lv_iload_n hx hb d_Y_copyOf3_31 rfl (zl hl rfl) ?_
    refine va_mmin hx hb (hml.trans hl.1.symm) hown (hts _ tw_491) (hts _ tw_260) (hts _ tw_46) (hts _ tw_261) (Nat.le_of_ble_eq_true rfl) (Nat.le_of_ble_eq_true rfl) (Nat.le_of_ble_eq_true rfl) (Nat.le_of_ble_eq_true rfl) d_Y_copyOf3_32 ?_
    refine z_top (y := nI cap) (zmn hcN (by omega)) ?_
    refine z_copy hx hb (hml.trans hl.1.symm) hts hown tw_492 tw_494 tw_493 tw_48 hK hP hD hS hZA.2.2.2.2.2 4 rfl (u.2 _ _ he) u.1 rfl hcN (by omega) (fun i hi y hy => by obtain ⟨vs, hv⟩ := hel i hi y hy; exact ⟨vs, u.2 _ _ hv⟩) (Nat.le_of_ble_eq_true rfl) (Nat.le_of_ble_eq_true rfl) d_Y_copyOf3_35 (fun ws2 H locs hP hD hS u2 => ?_)
    refine lv_aload_n hx hb d_Y_copyOf3_38 rfl (zl hl rfl) ?_
    exact z_aretR hx hb hr (Or.inr ⟨_, rfl⟩) hlocks hP hD hS ⟨u2.1, fun b f h => u2.2 _ _ (hne b f h) (u.2 _ _ h), hne⟩ d_Y_copyOf3_39
set_option maxHeartbeats 4000000 in
set_option maxRecDepth 100000 in
theorem c_Y_copyOf (l : Launch) {D : va_G} {kk : Nat → ClassId} {ws : va_W} {H : Heap} {e0 mi B : Nat} (hP : va_P D vwCl ws H) (hD : va_D (fun q => B ≤ q) ws) (hB : B ≤ H.size) {ea cap : Nat} {arr : Nat → Option Nat} (he : zin ws ea (.inl (kk 4, cap, .inr (.inr (.inr (.inr arr)))))) (N : Nat) (hcN : cap ≤ N) (hN2 : N ≤ 600) (hel : ∀ i, i < cap → ∀ y, arr i = some y → ∃ vs, zin ws y (.inr (2, vs))) : Met l y_Y_copyOf (Cond.code y_Y_copyOf b_Y_copyOf 2 (some (.array (.object "java/lang/Object"))) :: TT) ({ frames := 3, cells := 1, slots := 600, locals := 120 }) (zPa [.ref ea, .int (nI N)] H D vwCl (TY kk) e0 mi B) (zRr D vwCl B (fun q ws' => zin ws' q (.inl (kk 4, N, .inr (.inr (.inr (.inr (va_cpy arr (fun _ => none) 0 0 cap)))))) ∧ (∀ (b : Nat) (f : va_E), zin ws b f → zin ws' b f) ∧ ∀ (b : Nat) (f : va_E), zin ws b f → b ≠ q)) 1 600 (fun q => B ≤ q) := by
  refine z_bodyA (by decide) (Nat.le_of_ble_eq_true rfl) ?_
  intro p e s m below meth c ls C0 hnm hH hKN hZA hl
  obtain ⟨hx, hb, hr, hts, hown, hlocks, hml⟩ := C0
  subst hH
  have hK := hKN.1
  have hN := hKN.2
  have hS : va_S (fun q => B ≤ q) s.heap s.heap [] := va_S.rf
  have hA0 : ∀ q : Nat, s.heap.size ≤ q → (fun q => B ≤ q) q := fun q h => Nat.le_trans hB h
  have hl : lv_has ls 2 [(0, .ref ea), (1, .int (nI N))] := hl
  refine lv_aload_n hx hb d_Y_copyOf_0 rfl (zl hl rfl) ?_
  refine lv_iload_n hx hb d_Y_copyOf_1 rfl (zl hl rfl) ?_
  refine lv_aload_n hx hb d_Y_copyOf_2 rfl (zl hl rfl) ?_
  refine va_getC (C := "[Ljava/lang/Object;") hx hb (hml.trans hl.1.symm) hown (hts _ tw_472) hZA.2.1.use (hts _ tw_742) (hts _ tw_473) (hts _ tw_484) hZA.2.2.1 ?_ (Nat.le_of_ble_eq_true rfl) (Nat.le_of_ble_eq_true rfl) d_Y_copyOf_3 ?_
  · have z1 := z_P hP he 0 _ rfl
    exact ⟨_, z1, rfl, va_nmO (hK.2 4 _ rfl).2 rfl⟩
  refine z_callr (va_runS (As := [.ref ea, .int (nI N), .ref mi]) (rest := []) ⟨hx, hb, hml, hown, hts⟩ (c_Y_copyOf3 l hP hD hB he N hcN hN2 hel) (va_cwS 3 hts (tt_S tw_487 tw_485 tw_486 tw_47) rfl rfl rfl (by decide +kernel) ⟨Nat.le_of_ble_eq_true rfl, Nat.le_of_ble_eq_true rfl⟩) (zPa_S hKN (hZA.on hS)) rfl rfl hl.1 rfl (lv_room (Nat.le_of_ble_eq_true rfl)) d_Y_copyOf_6 ⟨Nat.le_of_ble_eq_true rfl, Nat.le_of_ble_eq_true rfl⟩) hS (fun q ws1 H locs hR hP hD hS => ?_)
  exact z_aretR hx hb hr (Or.inr ⟨_, rfl⟩) hlocks hP hD hS hR d_Y_copyOf_9
set_option maxHeartbeats 4000000 in
set_option maxRecDepth 100000 in
theorem c_A_grow1_0 (l : Launch) {D : va_G} {kk : Nat → ClassId} {ws : va_W} {H : Heap} {e0 mi B : Nat} (hP : va_P D vwCl ws H) (hD : va_D (fun q => B ≤ q) ws) (hB : B ≤ H.size) {la : Nat} {md : Int32} {arr : Nat → Option Nat} (hz : zin ws la (.inr (5, [.ref e0, .int (nI 0), .int md]))) : Met l y_A_grow1 (Cond.code y_A_grow1 b_A_grow1 4 (some (.array (.object "java/lang/Object"))) :: TT) ({ frames := 3, cells := 1, slots := 600, locals := 120 }) (zPa [.ref la, .int (nI 1)] H D vwCl (TY kk) e0 mi B) (zRr D vwCl B (fun q ws' => ∃ (cap' : Nat) (arr' : Nat → Option Nat), zin ws' la (.inr (5, [.ref q, .int (nI 0), .int md])) ∧ zin ws' q (.inl (kk 4, cap', .inr (.inr (.inr (.inr arr'))))) ∧ (0 + 1 ≤ cap' ∧ 10 ≤ cap' ∧ cap' < 1000) ∧ (∀ k, k < 0 → arr' k = arr k) ∧ (∀ (b : Nat) (f : va_E), b ≠ la → zin ws b f → zin ws' b f) ∧ ∀ (b : Nat) (f : va_E), zin ws b f → b ≠ q)) 1 600 (fun q => B ≤ q) := by
  refine z_bodyA (by decide) (Nat.le_of_ble_eq_true rfl) ?_
  intro p e s m below meth c ls C0 hnm hH hKN hZA hl
  obtain ⟨hx, hb, hr, hts, hown, hlocks, hml⟩ := C0
  subst hH
  have hK := hKN.1
  have hN := hKN.2
  have hS : va_S (fun q => B ≤ q) s.heap s.heap [] := va_S.rf
  have hA0 : ∀ q : Nat, s.heap.size ≤ q → (fun q => B ≤ q) q := fun q h => Nat.le_trans hB h
  have hl : lv_has ls 4 [(0, .ref la), (1, .int (nI 1))] := hl
  refine lv_aload_n hx hb d_A_grow1_0 rfl (zl hl rfl) ?_
  refine z_get (C := R_A) (T := F_A) (N := 3) (v := .ref e0) hx hb hts inT_A hown hK hP hz rfl 0 (by decide) tw_76 (fun _ h => h) rfl d_A_grow1_1 ?_
  refine va_tlen (v := nI 0) hx hb hZA.2.2.2.2.1 hS rfl d_A_grow1_4 ?_
  refine lv_istore_n (lv' := [(2, .int (nI 0)), (0, .ref la), (1, .int (nI 1))]) hx hb d_A_grow1_5 rfl hl (by decide) rfl (fun ls hl => ?_)
  refine lv_iload_n hx hb d_A_grow1_6 rfl (zl hl rfl) ?_
  refine lv_if_gt (tgt := 20) hx hb d_A_grow1_7 (by decide) (fun c_1 => ?_) (fun c_1 => ?_)
  · exact absurd c_1 (by decide)
  · refine lv_aload_n hx hb d_A_grow1_10 rfl (zl hl rfl) ?_
    refine z_get (C := R_A) (T := F_A) (N := 3) (v := .ref e0) hx hb hts inT_A hown hK hP hz rfl 0 (by decide) tw_76 (fun _ h => h) rfl d_A_grow1_11 ?_
    refine va_gets hx hb hZA.2.2.2.1 hS hown (hts _ tw_74) (fun _ h => h) d_A_grow1_14 ?_
    refine lv_acmp_eq (tgt := 45) (rx := (some e0)) (ry := (some e0)) hx hb d_A_grow1_17 (by decide) (fun c_2 => ?_) (fun c_2 => ?_)
    · refine lv_aload_n hx hb d_A_grow1_45 rfl (zl hl rfl) ?_
      refine lv_bipush (v := 10) hx hb d_A_grow1_46 (by decide) ?_
      refine lv_iload_n hx hb d_A_grow1_48 rfl (zl hl rfl) ?_
      refine va_mmax hx hb (hml.trans hl.1.symm) hown (hts _ tw_495) (hts _ tw_463) (hts _ tw_46) (hts _ tw_464) (Nat.le_of_ble_eq_true rfl) (Nat.le_of_ble_eq_true rfl) (Nat.le_of_ble_eq_true rfl) (Nat.le_of_ble_eq_true rfl) d_A_grow1_49 ?_
      refine z_newq (C := "java/lang/Object") hx hb hts hown tw_496 hZA.1.1 hK hP hD hS hA0 4 rfl 10 (zm10 (by decide)) (by decide) (Nat.le_of_ble_eq_true rfl) (Nat.le_of_ble_eq_true rfl) d_A_grow1_52 (fun q ws1 H hP hD hS u hne hq => ?_)
      refine W.widen (k := 1) (n := 600) (Nat.le_of_ble_eq_true rfl) (Nat.le_of_ble_eq_true rfl) ?_
      refine lv_dup_x1 hx hb d_A_grow1_55 rfl rfl ?_
      have hD0 := hD
      refine z_put (C := R_A) (T := F_A) (N := 3) (v := .ref q) hx hb hts inT_A ft_A ft_A_ok fn_A hown hK hP hD hS (u.2 _ _ hz) rfl 0 (by decide) tw_76 (fun _ h => h) rfl rfl rfl (by simp) d_A_grow1_56 (fun ws H locs hP hD hS uL => ?_)
      exact z_aretR hx hb hr (Or.inr ⟨_, rfl⟩) hlocks hP hD hS ⟨10, fun _ => none, uL.1, uL.2 _ _ (fun z => hne _ _ hz z.symm) u.1, by decide, fun k hk => absurd hk (by omega), fun b f hb h => uL.2 _ _ hb (u.2 _ _ h), hne⟩ d_A_grow1_59
    · exact absurd rfl c_2
set_option maxHeartbeats 4000000 in
set_option maxRecDepth 100000 in
theorem c_A_grow1 (l : Launch) {D : va_G} {kk : Nat → ClassId} {ws : va_W} {H : Heap} {e0 mi B : Nat} (hP : va_P D vwCl ws H) (hD : va_D (fun q => B ≤ q) ws) (hB : B ≤ H.size) {la ea n : Nat} {md : Int32} {arr : Nat → Option Nat} (hz : zin ws la (.inr (5, [.ref ea, .int (nI n), .int md]))) (he : zin ws ea (.inl (kk 4, n, .inr (.inr (.inr (.inr arr)))))) (hn : 10 ≤ n) (hn4 : n < 400) (hel : ∀ i, i < n → ∀ y, arr i = some y → ∃ vs, zin ws y (.inr (2, vs))) : Met l y_A_grow1 (Cond.code y_A_grow1 b_A_grow1 4 (some (.array (.object "java/lang/Object"))) :: TT) ({ frames := 4, cells := 1, slots := 600, locals := 160 }) (zPa [.ref la, .int (nI (n + 1))] H D vwCl (TY kk) e0 mi B) (zRr D vwCl B (fun q ws' => ∃ (cap' : Nat) (arr' : Nat → Option Nat), zin ws' la (.inr (5, [.ref q, .int (nI n), .int md])) ∧ zin ws' q (.inl (kk 4, cap', .inr (.inr (.inr (.inr arr'))))) ∧ (n + 1 ≤ cap' ∧ 10 ≤ cap' ∧ cap' < 1000) ∧ (∀ k, k < n → arr' k = arr k) ∧ (∀ (b : Nat) (f : va_E), b ≠ la → zin ws b f → zin ws' b f) ∧ ∀ (b : Nat) (f : va_E), zin ws b f → b ≠ q)) 1 600 (fun q => B ≤ q) := by
  refine z_bodyA (by decide) (Nat.le_of_ble_eq_true rfl) ?_
  intro p e s m below meth c ls C0 hnm hH hKN hZA hl
  obtain ⟨hx, hb, hr, hts, hown, hlocks, hml⟩ := C0
  subst hH
  have hK := hKN.1
  have hN := hKN.2
  have hS : va_S (fun q => B ≤ q) s.heap s.heap [] := va_S.rf
  have hA0 : ∀ q : Nat, s.heap.size ≤ q → (fun q => B ≤ q) q := fun q h => Nat.le_trans hB h
  have hl : lv_has ls 4 [(0, .ref la), (1, .int (nI (n + 1)))] := hl
  refine lv_aload_n hx hb d_A_grow1_0 rfl (zl hl rfl) ?_
  refine z_get (C := R_A) (T := F_A) (N := 3) (v := .ref ea) hx hb hts inT_A hown hK hP hz rfl 0 (by decide) tw_76 (fun _ h => h) rfl d_A_grow1_1 ?_
  refine z_alen hx hb hK hP 4 he rfl d_A_grow1_4 ?_
  refine lv_istore_n (lv' := [(2, .int (nI n)), (0, .ref la), (1, .int (nI (n + 1)))]) hx hb d_A_grow1_5 rfl hl (by decide) rfl (fun ls hl => ?_)
  refine lv_iload_n hx hb d_A_grow1_6 rfl (zl hl rfl) ?_
  refine lv_if_gt (tgt := 20) hx hb d_A_grow1_7 (by decide) (fun c_1 => ?_) (fun c_1 => ?_)
  · refine lv_iload_n hx hb d_A_grow1_20 rfl (zl hl rfl) ?_
    refine lv_iload_n hx hb d_A_grow1_21 rfl (zl hl rfl) ?_
    refine lv_iload_n hx hb d_A_grow1_22 rfl (zl hl rfl) ?_
    refine lv_isub hx hb d_A_grow1_23 ?_
    refine z_top (y := 1) (by rw [← nI_1 n, Int32.add_comm, Int32.add_sub_cancel]) ?_
    refine lv_iload_n hx hb d_A_grow1_24 rfl (zl hl rfl) ?_
    refine lv_iconst (v := 1) hx hb d_A_grow1_25 (by decide) ?_
    refine lv_ishr hx hb d_A_grow1_26 ?_
    refine z_top (y := nI (n / 2)) (zsr (by omega)) ?_
    refine z_calli (va_runS (As := [.int (nI n), .int 1, .int (nI (n / 2))]) (rest := []) ⟨hx, hb, hml, hown, hts⟩ (c_S_newLength l hP n (n / 2) (by omega) (by omega)) (va_cwS 3 hts (tt_S tw_461 tw_459 tw_460 tw_45) rfl rfl rfl (by decide +kernel) ⟨Nat.le_of_ble_eq_true rfl, Nat.le_of_ble_eq_true rfl⟩) (zPc_S hKN) rfl rfl hl.1 rfl (lv_room (Nat.le_of_ble_eq_true rfl)) d_A_grow1_27 ⟨Nat.zero_le _, Nat.zero_le _⟩) hS (fun locs hS => ?_)
    refine lv_istore_n (lv' := [(3, .int (nI (n + n / 2))), (2, .int (nI n)), (0, .ref la), (1, .int (nI (n + 1)))]) hx hb d_A_grow1_30 rfl hl (by decide) rfl (fun ls hl => ?_)
    refine lv_aload_n hx hb d_A_grow1_31 rfl (zl hl rfl) ?_
    refine lv_aload_n hx hb d_A_grow1_32 rfl (zl hl rfl) ?_
    refine z_get (C := R_A) (T := F_A) (N := 3) (v := .ref ea) hx hb hts inT_A hown hK hP hz rfl 0 (by decide) tw_76 (fun _ h => h) rfl d_A_grow1_33 ?_
    refine lv_iload_n hx hb d_A_grow1_36 rfl (zl hl rfl) ?_
    refine z_callr (va_runS (As := [.ref ea, .int (nI (n + n / 2))]) (rest := [.ref la]) ⟨hx, hb, hml, hown, hts⟩ (c_Y_copyOf l hP hD hB he (n + n / 2) (by omega) (by omega) hel) (va_cwS 2 hts (tt_S tw_471 tw_469 tw_470 tw_47) rfl rfl rfl (by decide +kernel) ⟨Nat.le_of_ble_eq_true rfl, Nat.le_of_ble_eq_true rfl⟩) (zPa_S hKN (hZA.on hS)) rfl rfl hl.1 rfl (lv_room (Nat.le_of_ble_eq_true rfl)) d_A_grow1_37 ⟨Nat.le_of_ble_eq_true rfl, Nat.le_of_ble_eq_true rfl⟩) hS (fun q ws1 H locs hR hP hD hS => ?_)
    obtain ⟨r1, r2, hne⟩ := hR
    refine lv_dup_x1 hx hb d_A_grow1_40 rfl rfl ?_
    have hD0 := hD
    refine z_put (C := R_A) (T := F_A) (N := 3) (v := .ref q) hx hb hts inT_A ft_A ft_A_ok fn_A hown hK hP hD hS (r2 _ _ hz) rfl 0 (by decide) tw_76 (fun _ h => h) rfl rfl rfl (by simp) d_A_grow1_41 (fun ws H locs hP hD hS uL => ?_)
    exact z_aretR hx hb hr (Or.inr ⟨_, rfl⟩) hlocks hP hD hS ⟨n + n / 2, va_cpy arr (fun _ => none) 0 0 n, uL.1, uL.2 _ _ (fun z => hne _ _ hz z.symm) r1, ⟨by omega, by omega, by omega⟩, fun k hk => by unfold va_cpy; rw [if_pos ⟨Nat.zero_le _, by omega⟩, Nat.sub_zero, Nat.zero_add], fun b f hb h => uL.2 _ _ hb (r2 _ _ h), hne⟩ d_A_grow1_44
  · exact absurd (by rw [show (0 : Int32) = nI 0 by decide]; exact nI_lt (by omega) (by omega)) c_1
set_option maxHeartbeats 4000000 in
set_option maxRecDepth 100000 in
theorem c_A_grow_0 (l : Launch) {D : va_G} {kk : Nat → ClassId} {ws : va_W} {H : Heap} {e0 mi B : Nat} (hP : va_P D vwCl ws H) (hD : va_D (fun q => B ≤ q) ws) (hB : B ≤ H.size) {la : Nat} {md : Int32} {arr : Nat → Option Nat} (hz : zin ws la (.inr (5, [.ref e0, .int (nI 0), .int md]))) : Met l y_A_grow (Cond.code y_A_grow b_A_grow 1 (some (.array (.object "java/lang/Object"))) :: TT) ({ frames := 5, cells := 1, slots := 600, locals := 200 }) (zPa [.ref la] H D vwCl (TY kk) e0 mi B) (zRr D vwCl B (fun q ws' => ∃ (cap' : Nat) (arr' : Nat → Option Nat), zin ws' la (.inr (5, [.ref q, .int (nI 0), .int md])) ∧ zin ws' q (.inl (kk 4, cap', .inr (.inr (.inr (.inr arr'))))) ∧ (0 + 1 ≤ cap' ∧ 10 ≤ cap' ∧ cap' < 1000) ∧ (∀ k, k < 0 → arr' k = arr k) ∧ (∀ (b : Nat) (f : va_E), b ≠ la → zin ws b f → zin ws' b f) ∧ ∀ (b : Nat) (f : va_E), zin ws b f → b ≠ q)) 1 600 (fun q => B ≤ q) := by
  refine z_bodyA (by decide) (Nat.le_of_ble_eq_true rfl) ?_
  intro p e s m below meth c ls C0 hnm hH hKN hZA hl
  obtain ⟨hx, hb, hr, hts, hown, hlocks, hml⟩ := C0
  subst hH
  have hK := hKN.1
  have hN := hKN.2
  have hS : va_S (fun q => B ≤ q) s.heap s.heap [] := va_S.rf
  have hA0 : ∀ q : Nat, s.heap.size ≤ q → (fun q => B ≤ q) q := fun q h => Nat.le_trans hB h
  have hl : lv_has ls 1 [(0, .ref la)] := hl
  refine lv_aload_n hx hb d_A_grow_0 rfl (zl hl rfl) ?_
  refine lv_aload_n hx hb d_A_grow_1 rfl (zl hl rfl) ?_
  refine z_get (C := R_A) (T := F_A) (N := 3) (v := .int (nI 0)) hx hb hts inT_A hown hK hP hz rfl 1 (by decide) tw_77 (fun _ h => h) rfl d_A_grow_2 ?_
  refine lv_iconst (v := 1) hx hb d_A_grow_5 (by decide) ?_
  refine lv_iadd hx hb d_A_grow_6 ?_
  refine z_top (y := nI 1) (by decide) ?_
  refine z_callr (va_runV (As := [.int (nI 1)]) (rest := []) ⟨hx, hb, hml, hown, hts⟩ (c_A_grow1_0 (arr := arr) l hP hD hB hz) (cwV 1 hts (tt_V tw_458 tw_455 tw_457 tw_14 tw_33) rfl rfl rfl (by decide +kernel) ⟨Nat.le_of_ble_eq_true rfl, Nat.le_of_ble_eq_true rfl⟩) (zPa_V hKN (hZA.on hS) hP (ci := 5) (q := (R_A, F_A, 3)) rfl hz) rfl rfl hl.1 rfl (lv_room (Nat.le_of_ble_eq_true rfl)) d_A_grow_7 ⟨Nat.le_of_ble_eq_true rfl, Nat.le_of_ble_eq_true rfl⟩) hS (fun q ws1 H locs hR hP hD hS => ?_)
  exact z_aretR hx hb hr (Or.inr ⟨_, rfl⟩) hlocks hP hD hS hR d_A_grow_10
set_option maxHeartbeats 4000000 in
set_option maxRecDepth 100000 in
theorem c_A_grow (l : Launch) {D : va_G} {kk : Nat → ClassId} {ws : va_W} {H : Heap} {e0 mi B : Nat} (hP : va_P D vwCl ws H) (hD : va_D (fun q => B ≤ q) ws) (hB : B ≤ H.size) {la ea n : Nat} {md : Int32} {arr : Nat → Option Nat} (hz : zin ws la (.inr (5, [.ref ea, .int (nI n), .int md]))) (he : zin ws ea (.inl (kk 4, n, .inr (.inr (.inr (.inr arr)))))) (hn : 10 ≤ n) (hn4 : n < 400) (hel : ∀ i, i < n → ∀ y, arr i = some y → ∃ vs, zin ws y (.inr (2, vs))) : Met l y_A_grow (Cond.code y_A_grow b_A_grow 1 (some (.array (.object "java/lang/Object"))) :: TT) ({ frames := 5, cells := 1, slots := 600, locals := 200 }) (zPa [.ref la] H D vwCl (TY kk) e0 mi B) (zRr D vwCl B (fun q ws' => ∃ (cap' : Nat) (arr' : Nat → Option Nat), zin ws' la (.inr (5, [.ref q, .int (nI n), .int md])) ∧ zin ws' q (.inl (kk 4, cap', .inr (.inr (.inr (.inr arr'))))) ∧ (n + 1 ≤ cap' ∧ 10 ≤ cap' ∧ cap' < 1000) ∧ (∀ k, k < n → arr' k = arr k) ∧ (∀ (b : Nat) (f : va_E), b ≠ la → zin ws b f → zin ws' b f) ∧ ∀ (b : Nat) (f : va_E), zin ws b f → b ≠ q)) 1 600 (fun q => B ≤ q) := by
  refine z_bodyA (by decide) (Nat.le_of_ble_eq_true rfl) ?_
  intro p e s m below meth c ls C0 hnm hH hKN hZA hl
  obtain ⟨hx, hb, hr, hts, hown, hlocks, hml⟩ := C0
  subst hH
  have hK := hKN.1
  have hN := hKN.2
  have hS : va_S (fun q => B ≤ q) s.heap s.heap [] := va_S.rf
  have hA0 : ∀ q : Nat, s.heap.size ≤ q → (fun q => B ≤ q) q := fun q h => Nat.le_trans hB h
  have hl : lv_has ls 1 [(0, .ref la)] := hl
  refine lv_aload_n hx hb d_A_grow_0 rfl (zl hl rfl) ?_
  refine lv_aload_n hx hb d_A_grow_1 rfl (zl hl rfl) ?_
  refine z_get (C := R_A) (T := F_A) (N := 3) (v := .int (nI n)) hx hb hts inT_A hown hK hP hz rfl 1 (by decide) tw_77 (fun _ h => h) rfl d_A_grow_2 ?_
  refine lv_iconst (v := 1) hx hb d_A_grow_5 (by decide) ?_
  refine lv_iadd hx hb d_A_grow_6 ?_
  refine z_top (y := nI (n + 1)) (nI_1 n) ?_
  refine z_callr (va_runV (As := [.int (nI (n + 1))]) (rest := []) ⟨hx, hb, hml, hown, hts⟩ (c_A_grow1 l hP hD hB hz he hn hn4 hel) (cwV 1 hts (tt_V tw_458 tw_455 tw_457 tw_14 tw_33) rfl rfl rfl (by decide +kernel) ⟨Nat.le_of_ble_eq_true rfl, Nat.le_of_ble_eq_true rfl⟩) (zPa_V hKN (hZA.on hS) hP (ci := 5) (q := (R_A, F_A, 3)) rfl hz) rfl rfl hl.1 rfl (lv_room (Nat.le_of_ble_eq_true rfl)) d_A_grow_7 ⟨Nat.le_of_ble_eq_true rfl, Nat.le_of_ble_eq_true rfl⟩) hS (fun q ws1 H locs hR hP hD hS => ?_)
  exact z_aretR hx hb hr (Or.inr ⟨_, rfl⟩) hlocks hP hD hS hR d_A_grow_10
set_option maxHeartbeats 4000000 in
set_option maxRecDepth 100000 in
theorem c_A_add3 (l : Launch) {D : va_G} {kk : Nat → ClassId} {ws : va_W} {H : Heap} {e0 mi B : Nat} (hP : va_P D vwCl ws H) (hD : va_D (fun q => B ≤ q) ws) (hB : B ≤ H.size) {la ea n : Nat} {md : Int32} {arr : Nat → Option Nat} (hz : zin ws la (.inr (5, [.ref ea, .int (nI n), .int md]))) {cap x : Nat} {vs : List Value} (hE : (n = 0 ∧ ea = e0) ∨ (zin ws ea (.inl (kk 4, cap, .inr (.inr (.inr (.inr arr))))) ∧ n ≤ cap ∧ 10 ≤ cap ∧ cap < 1000)) (hv : zin ws x (.inr (2, vs))) (hn4 : n < 400) (hel : ∀ i, i < n → ∀ y, arr i = some y → ∃ vs, zin ws y (.inr (2, vs))) : Met l y_A_add3 (Cond.code y_A_add3 b_A_add3 4 none :: TT) ({ frames := 6, cells := 1, slots := 600, locals := 240 }) (zPa [.ref la, .ref x, .ref ea, .int (nI n)] H D vwCl (TY kk) e0 mi B) (zR D vwCl B none (fun ws' => ∃ (ea' cap' : Nat) (arr' : Nat → Option Nat), zin ws' la (.inr (5, [.ref ea', .int (nI (n + 1)), .int md])) ∧ zin ws' ea' (.inl (kk 4, cap', .inr (.inr (.inr (.inr arr'))))) ∧ (n + 1 ≤ cap' ∧ 10 ≤ cap' ∧ cap' < 1000) ∧ (∀ k, k < n → arr' k = arr k) ∧ arr' n = some x ∧ ∀ (b : Nat) (f : va_E), b ≠ la → b ≠ ea → zin ws b f → zin ws' b f)) 1 600 (fun q => B ≤ q) := by
  refine z_bodyA (by decide) (Nat.le_of_ble_eq_true rfl) ?_
  intro p e s m below meth c ls C0 hnm hH hKN hZA hl
  obtain ⟨hx, hb, hr, hts, hown, hlocks, hml⟩ := C0
  subst hH
  have hK := hKN.1
  have hN := hKN.2
  have hS : va_S (fun q => B ≤ q) s.heap s.heap [] := va_S.rf
  have hA0 : ∀ q : Nat, s.heap.size ≤ q → (fun q => B ≤ q) q := fun q h => Nat.le_trans hB h
  rcases hE with ⟨rfl, rfl⟩ | ⟨he, hcap, h10, hc9⟩
  · have hD9 := hD
    have hl : lv_has ls 4 [(0, .ref la), (1, .ref x), (2, .ref ea), (3, .int (nI 0))] := hl
    refine lv_iload_n hx hb d_A_add3_0 rfl (zl hl rfl) ?_
    refine lv_aload_n hx hb d_A_add3_1 rfl (zl hl rfl) ?_
    refine va_tlen (v := nI 0) hx hb hZA.2.2.2.2.1 hS rfl d_A_add3_2 ?_
    refine lv_icmp_ne (tgt := 11) hx hb d_A_add3_3 (by decide) (fun c_1 => ?_) (fun c_1 => ?_)
    · exact absurd rfl c_1
    · refine lv_aload_n hx hb d_A_add3_6 rfl (zl hl rfl) ?_
      refine z_callr (va_runV (As := []) (rest := []) ⟨hx, hb, hml, hown, hts⟩ (c_A_grow_0 (arr := arr) l hP hD hB hz) (cwV 0 hts (tt_V tw_454 tw_451 tw_453 tw_13 tw_33) rfl rfl rfl (by decide +kernel) ⟨Nat.le_of_ble_eq_true rfl, Nat.le_of_ble_eq_true rfl⟩) (zPa_V hKN (hZA.on hS) hP (ci := 5) (q := (R_A, F_A, 3)) rfl hz) rfl rfl hl.1 rfl (lv_room (Nat.le_of_ble_eq_true rfl)) d_A_add3_7 ⟨Nat.le_of_ble_eq_true rfl, Nat.le_of_ble_eq_true rfl⟩) hS (fun q ws1 H locs hR hP hD hS => ?_)
      obtain ⟨cap', arr', r1, r2, r3, r4, r5, hne⟩ := hR
      refine lv_astore_n (lv' := [(2, .ref q), (0, .ref la), (1, .ref x), (3, .int (nI 0))]) hx hb d_A_add3_10 rfl hl (by decide) rfl (fun ls hl => ?_)
      refine lv_aload_n hx hb d_A_add3_11 rfl (zl hl rfl) ?_
      refine lv_iload_n hx hb d_A_add3_12 rfl (zl hl rfl) ?_
      refine lv_aload_n hx hb d_A_add3_13 rfl (zl hl rfl) ?_
      refine z_aastM hx hb hK hP hD hS hZA.2.2.2.2.2 4 r2 rfl (r5 _ _ (zin_ne hD9 hv hz (by intro z; cases z)) hv) 0 rfl (by omega) (by omega) d_A_add3_14 (fun ws H locs hP hD hS uA => ?_)
      refine lv_aload_n hx hb d_A_add3_15 rfl (zl hl rfl) ?_
      refine lv_iload_n hx hb d_A_add3_16 rfl (zl hl rfl) ?_
      refine lv_iconst (v := 1) hx hb d_A_add3_17 (by decide) ?_
      refine lv_iadd hx hb d_A_add3_18 ?_
      refine z_top (y := nI (0 + 1)) (nI_1 0) ?_
      have hD0 := hD
      refine z_put (C := R_A) (T := F_A) (N := 3) (v := .int (nI (0 + 1))) hx hb hts inT_A ft_A ft_A_ok fn_A hown hK hP hD hS ((uA.2 _ _ (fun z => hne _ _ hz z) r1)) rfl 1 (by decide) tw_77 (fun _ h => h) rfl rfl rfl (by simp) d_A_add3_19 (fun ws H locs hP hD hS uL => ?_)
      exact z_vretR hx hb hr hlocks hP hD hS ⟨q, cap', va_up arr' 0 (some x), uL.1, uL.2 _ _ (fun z => hne _ _ hz z.symm) uA.1, ⟨by omega, by omega, by omega⟩, fun k hk => by rw [va_up_ne _ _ (by omega)]; exact r4 k hk, va_up_self _ _ _, fun b f h1 h2 h => uL.2 _ _ h1 (uA.2 _ _ (hne _ _ h) (r5 _ _ h1 h))⟩ d_A_add3_22
  · by_cases hfull : n = cap
    · subst hfull
      have hD9 := hD
      have hl : lv_has ls 4 [(0, .ref la), (1, .ref x), (2, .ref ea), (3, .int (nI n))] := hl
      refine lv_iload_n hx hb d_A_add3_0 rfl (zl hl rfl) ?_
      refine lv_aload_n hx hb d_A_add3_1 rfl (zl hl rfl) ?_
      refine z_alen hx hb hK hP 4 he rfl d_A_add3_2 ?_
      refine lv_icmp_ne (tgt := 11) hx hb d_A_add3_3 (by decide) (fun c_1 => ?_) (fun c_1 => ?_)
      · exact absurd rfl c_1
      · refine lv_aload_n hx hb d_A_add3_6 rfl (zl hl rfl) ?_
        refine z_callr (va_runV (As := []) (rest := []) ⟨hx, hb, hml, hown, hts⟩ (c_A_grow l hP hD hB hz he h10 hn4 hel) (cwV 0 hts (tt_V tw_454 tw_451 tw_453 tw_13 tw_33) rfl rfl rfl (by decide +kernel) ⟨Nat.le_of_ble_eq_true rfl, Nat.le_of_ble_eq_true rfl⟩) (zPa_V hKN (hZA.on hS) hP (ci := 5) (q := (R_A, F_A, 3)) rfl hz) rfl rfl hl.1 rfl (lv_room (Nat.le_of_ble_eq_true rfl)) d_A_add3_7 ⟨Nat.le_of_ble_eq_true rfl, Nat.le_of_ble_eq_true rfl⟩) hS (fun q ws1 H locs hR hP hD hS => ?_)
        obtain ⟨cap', arr', r1, r2, r3, r4, r5, hne⟩ := hR
        refine lv_astore_n (lv' := [(2, .ref q), (0, .ref la), (1, .ref x), (3, .int (nI n))]) hx hb d_A_add3_10 rfl hl (by decide) rfl (fun ls hl => ?_)
        refine lv_aload_n hx hb d_A_add3_11 rfl (zl hl rfl) ?_
        refine lv_iload_n hx hb d_A_add3_12 rfl (zl hl rfl) ?_
        refine lv_aload_n hx hb d_A_add3_13 rfl (zl hl rfl) ?_
        refine z_aastM hx hb hK hP hD hS hZA.2.2.2.2.2 4 r2 rfl (r5 _ _ (zin_ne hD9 hv hz (by intro z; cases z)) hv) n rfl (by omega) (by omega) d_A_add3_14 (fun ws H locs hP hD hS uA => ?_)
        refine lv_aload_n hx hb d_A_add3_15 rfl (zl hl rfl) ?_
        refine lv_iload_n hx hb d_A_add3_16 rfl (zl hl rfl) ?_
        refine lv_iconst (v := 1) hx hb d_A_add3_17 (by decide) ?_
        refine lv_iadd hx hb d_A_add3_18 ?_
        refine z_top (y := nI (n + 1)) (nI_1 n) ?_
        have hD0 := hD
        refine z_put (C := R_A) (T := F_A) (N := 3) (v := .int (nI (n + 1))) hx hb hts inT_A ft_A ft_A_ok fn_A hown hK hP hD hS ((uA.2 _ _ (fun z => hne _ _ hz z) r1)) rfl 1 (by decide) tw_77 (fun _ h => h) rfl rfl rfl (by simp) d_A_add3_19 (fun ws H locs hP hD hS uL => ?_)
        exact z_vretR hx hb hr hlocks hP hD hS ⟨q, cap', va_up arr' n (some x), uL.1, uL.2 _ _ (fun z => hne _ _ hz z.symm) uA.1, ⟨by omega, by omega, by omega⟩, fun k hk => by rw [va_up_ne _ _ (by omega)]; exact r4 k hk, va_up_self _ _ _, fun b f h1 h2 h => uL.2 _ _ h1 (uA.2 _ _ (hne _ _ h) (r5 _ _ h1 h))⟩ d_A_add3_22
    · have hD9 := hD
      refine W.widen (k := 1) (n := 600) (Nat.zero_le _) (Nat.zero_le _) ?_
      have hl : lv_has ls 4 [(0, .ref la), (1, .ref x), (2, .ref ea), (3, .int (nI n))] := hl
      refine lv_iload_n hx hb d_A_add3_0 rfl (zl hl rfl) ?_
      refine lv_aload_n hx hb d_A_add3_1 rfl (zl hl rfl) ?_
      refine z_alen hx hb hK hP 4 he rfl d_A_add3_2 ?_
      refine lv_icmp_ne (tgt := 11) hx hb d_A_add3_3 (by decide) (fun c_1 => ?_) (fun c_1 => ?_)
      · refine lv_aload_n hx hb d_A_add3_11 rfl (zl hl rfl) ?_
        refine lv_iload_n hx hb d_A_add3_12 rfl (zl hl rfl) ?_
        refine lv_aload_n hx hb d_A_add3_13 rfl (zl hl rfl) ?_
        refine z_aastM hx hb hK hP hD hS hZA.2.2.2.2.2 4 he rfl hv n rfl (by omega) (by omega) d_A_add3_14 (fun ws H locs hP hD hS uA => ?_)
        refine lv_aload_n hx hb d_A_add3_15 rfl (zl hl rfl) ?_
        refine lv_iload_n hx hb d_A_add3_16 rfl (zl hl rfl) ?_
        refine lv_iconst (v := 1) hx hb d_A_add3_17 (by decide) ?_
        refine lv_iadd hx hb d_A_add3_18 ?_
        refine z_top (y := nI (n + 1)) (nI_1 n) ?_
        have hD0 := hD
        refine z_put (C := R_A) (T := F_A) (N := 3) (v := .int (nI (n + 1))) hx hb hts inT_A ft_A ft_A_ok fn_A hown hK hP hD hS ((uA.2 _ _ (zin_ne hD9 hz he (by intro z; cases z)) hz)) rfl 1 (by decide) tw_77 (fun _ h => h) rfl rfl rfl (by simp) d_A_add3_19 (fun ws H locs hP hD hS uL => ?_)
        exact z_vretR hx hb hr hlocks hP hD hS ⟨ea, cap, va_up arr n (some x), uL.1, uL.2 _ _ (zin_ne hD9 he hz (by intro z; cases z)) uA.1, ⟨by omega, h10, hc9⟩, fun k hk => va_up_ne _ _ (by omega), va_up_self _ _ _, fun b f h1 h2 h => uL.2 _ _ h1 (uA.2 _ _ h2 h)⟩ d_A_add3_22
      · exact absurd ((nI_eq (by omega) (by omega)).mp c_1) hfull
set_option maxHeartbeats 4000000 in
set_option maxRecDepth 100000 in
theorem c_A_add (l : Launch) {D : va_G} {kk : Nat → ClassId} {ws : va_W} {H : Heap} {e0 mi B : Nat} (hP : va_P D vwCl ws H) (hD : va_D (fun q => B ≤ q) ws) (hB : B ≤ H.size) {la ea n : Nat} {md : Int32} {arr : Nat → Option Nat} (hz : zin ws la (.inr (5, [.ref ea, .int (nI n), .int md]))) {cap x : Nat} {vs : List Value} (hE : (n = 0 ∧ ea = e0) ∨ (zin ws ea (.inl (kk 4, cap, .inr (.inr (.inr (.inr arr))))) ∧ n ≤ cap ∧ 10 ≤ cap ∧ cap < 1000)) (hv : zin ws x (.inr (2, vs))) (hn4 : n < 400) (hel : ∀ i, i < n → ∀ y, arr i = some y → ∃ vs, zin ws y (.inr (2, vs))) : Met l y_A_add (Cond.code y_A_add b_A_add 2 (some .boolean) :: TT) ({ frames := 7, cells := 1, slots := 600, locals := 280 }) (zPa [.ref la, .ref x] H D vwCl (TY kk) e0 mi B) (zR D vwCl B (some (.int (zb true))) (fun ws' => ∃ (ea' cap' : Nat) (arr' : Nat → Option Nat), zin ws' la (.inr (5, [.ref ea', .int (nI (n + 1)), .int (md + 1)])) ∧ zin ws' ea' (.inl (kk 4, cap', .inr (.inr (.inr (.inr arr'))))) ∧ (n + 1 ≤ cap' ∧ 10 ≤ cap' ∧ cap' < 1000) ∧ (∀ k, k < n → arr' k = arr k) ∧ arr' n = some x ∧ ∀ (b : Nat) (f : va_E), b ≠ la → b ≠ ea → zin ws b f → zin ws' b f)) 1 600 (fun q => B ≤ q) := by
  refine z_bodyA (by decide) (Nat.le_of_ble_eq_true rfl) ?_
  intro p e s m below meth c ls C0 hnm hH hKN hZA hl
  obtain ⟨hx, hb, hr, hts, hown, hlocks, hml⟩ := C0
  subst hH
  have hK := hKN.1
  have hN := hKN.2
  have hS : va_S (fun q => B ≤ q) s.heap s.heap [] := va_S.rf
  have hA0 : ∀ q : Nat, s.heap.size ≤ q → (fun q => B ≤ q) q := fun q h => Nat.le_trans hB h
  have hl : lv_has ls 2 [(0, .ref la), (1, .ref x)] := hl
  refine lv_aload_n hx hb d_A_add_0 rfl (zl hl rfl) ?_
  refine lv_dup hx hb d_A_add_1 rfl ?_
  refine z_get (C := R_A) (T := F_A) (N := 3) (v := .int md) hx hb hts inT_A hown hK hP hz rfl 2 (by decide) tw_79 (u_same (hts _ tw_80)) rfl d_A_add_2 ?_
  refine lv_iconst (v := 1) hx hb d_A_add_5 (by decide) ?_
  refine lv_iadd hx hb d_A_add_6 ?_
  have hD0 := hD
  refine z_put (C := R_A) (T := F_A) (N := 3) (v := .int (md + 1)) hx hb hts inT_A ft_A ft_A_ok fn_A hown hK hP hD hS (hz) rfl 2 (by decide) tw_79 (u_same (hts _ tw_80)) rfl rfl rfl (by simp) d_A_add_7 (fun ws H locs hP hD hS uL => ?_)
  have hz0 := hz
  have hz := uL.1
  have kp : ∀ (b : Nat) (f : va_E), b ≠ la → zin _ b f → zin ws b f := uL.2
  have hE' : (n = 0 ∧ ea = e0) ∨ (zin ws ea (.inl (kk 4, cap, .inr (.inr (.inr (.inr arr))))) ∧ n ≤ cap ∧ 10 ≤ cap ∧ cap < 1000) := by
    rcases hE with h | ⟨h1, h2⟩
    · exact Or.inl h
    · exact Or.inr ⟨kp _ _ (zin_ne hD0 h1 hz0 (by intro z; cases z)) h1, h2⟩
  refine lv_aload_n hx hb d_A_add_10 rfl (zl hl rfl) ?_
  refine lv_aload_n hx hb d_A_add_11 rfl (zl hl rfl) ?_
  refine lv_aload_n hx hb d_A_add_12 rfl (zl hl rfl) ?_
  refine z_get (C := R_A) (T := F_A) (N := 3) (v := .ref ea) hx hb hts inT_A hown hK hP hz rfl 0 (by decide) tw_76 (fun _ h => h) rfl d_A_add_13 ?_
  refine lv_aload_n hx hb d_A_add_16 rfl (zl hl rfl) ?_
  refine z_get (C := R_A) (T := F_A) (N := 3) (v := .int (nI n)) hx hb hts inT_A hown hK hP hz rfl 1 (by decide) tw_77 (fun _ h => h) rfl d_A_add_17 ?_
  refine z_call (va_runV (As := [.ref x, .ref ea, .int (nI n)]) (rest := []) ⟨hx, hb, hml, hown, hts⟩ (c_A_add3 l hP hD (Nat.le_trans hB hS.1) hz hE' (kp _ _ (zin_ne hD0 hv hz0 (by intro z; cases z)) hv) hn4 (fun i hi y hy => by obtain ⟨vs, h⟩ := hel i hi y hy; exact ⟨vs, kp _ _ (zin_ne hD0 h hz0 (by intro z; cases z)) h⟩)) (cwV 3 hts (tt_V tw_450 tw_447 tw_449 tw_12 tw_33) rfl rfl rfl (by decide +kernel) ⟨Nat.le_of_ble_eq_true rfl, Nat.le_of_ble_eq_true rfl⟩) (zPa_V hKN (hZA.on hS) hP (ci := 5) (q := (R_A, F_A, 3)) rfl hz) rfl rfl hl.1 rfl (lv_room (Nat.le_of_ble_eq_true rfl)) d_A_add_20 ⟨Nat.le_of_ble_eq_true rfl, Nat.le_of_ble_eq_true rfl⟩) hS (fun ws H locs hR hP hD hz9 hS => ?_)
  obtain ⟨ea', cap', arr', r1, r2, r3, r4, r5, r6⟩ := hR
  refine lv_iconst (v := 1) hx hb d_A_add_23 (by decide) ?_
  exact z_zretR (b := true) hx hb hr hlocks hP hD hS rfl ⟨ea', cap', arr', r1, r2, r3, r4, r5, fun b f h1 h2 h => r6 _ _ h1 h2 (kp _ _ h1 h)⟩ d_A_add_24

def toldK : Nat → Nat → Int32
  | 0 => fun _ => 0
  | i + 1 => upd (upd (upd (upd (toldK i) (6 * i) 10) (6 * i + 1) 5) (6 * i + 2) 1) (6 * i + 3) 60
def limK : Nat → Nat → Int32
  | 0 => fun _ => 0
  | i + 1 => upd (limK i) i 8
def f0 : FF := fun j => if j = 10 then toldK 4 else if j = 11 then limK 8 else fun _ => 0
theorem f0_10 : ∀ i, i < 4 → f0 10 (6 * i) = 10 ∧ f0 10 (6 * i + 1) = 5 ∧ f0 10 (6 * i + 2) = 1 ∧ f0 10 (6 * i + 3) = 60 ∧ f0 10 (6 * i + 4) = 0 ∧ f0 10 (6 * i + 5) = 0 := by decide
theorem f0_11 : ∀ i, i < 8 → f0 11 i = 8 := by decide
def xaF (a qa ga la : Nat) : Nat → Nat := fun j => if j = 0 then a else if j = 1 then qa else if j = 2 then ga else la
set_option maxHeartbeats 4000000 in
set_option maxRecDepth 100000 in
theorem c_X_init (l : Launch) {D : va_G} {kk : Nat → ClassId} {ws : va_W} {H : Heap} {e0 mi B : Nat} (hP : va_P D vwCl ws H) (hD : va_D (fun q => B ≤ q) ws) (hB : B ≤ H.size) {a : Nat} (hz : zin ws a (.inr (3, [.null, .null, .null, .int 0, .int 0]))) : Met l y_X_init (Cond.code y_X_init b_X_init 2 none :: TT) ({ frames := 6, cells := 15, slots := 55, locals := 240 }) (zPa [.ref a] H D vwCl (TY kk) e0 mi B) (zR D vwCl B none (fun ws' => (∃ (xa qad gad : Nat → Nat) (qar gar : Nat → Option Nat), xa 0 = a ∧ ∀ ky, PX kk xa qad gad (fun _ => 0) e0 0 0 0 f0 ky (fun _ _ => 0) qar gar (fun _ => none) e0 0 0 ws') ∧ ∀ (b : Nat) (f : va_E), b ≠ a → zin ws b f → zin ws' b f)) 15 55 (fun q => B ≤ q) := by
  refine z_bodyA (by decide) (Nat.le_of_ble_eq_true rfl) ?_
  intro p e s m below meth c ls C0 hnm hH hKN hZA hl
  obtain ⟨hx, hb, hr, hts, hown, hlocks, hml⟩ := C0
  subst hH
  have hK := hKN.1
  have hN := hKN.2
  have hS : va_S (fun q => B ≤ q) s.heap s.heap [] := va_S.rf
  have hA0 : ∀ q : Nat, s.heap.size ≤ q → (fun q => B ≤ q) q := fun q h => Nat.le_trans hB h
  have hin := hnm
  obtain ⟨ws0, hws0⟩ : ∃ z, z = ws := ⟨_, rfl⟩
  rw [← hws0]
  have hFr : zfrT a none ws0 ws := by rw [hws0]; exact zfrT_rf
  have zneGQ : ∀ {f g : Nat → Option Nat}, ((.inl (kk 3, 8, .inr (.inr (.inr (.inr f))))) : va_E) ≠ (.inl (kk 2, 4, .inr (.inr (.inr (.inr g))))) := fun h => absurd (Prod.mk.inj (Prod.mk.inj (Sum.inl.inj h)).2).1 (by decide)
  have zneQG : ∀ {f g : Nat → Option Nat}, ((.inl (kk 2, 4, .inr (.inr (.inr (.inr f))))) : va_E) ≠ (.inl (kk 3, 8, .inr (.inr (.inr (.inr g))))) := fun h => absurd (Prod.mk.inj (Prod.mk.inj (Sum.inl.inj h)).2).1 (by decide)
  have hl : lv_has ls 2 [(0, .ref a)] := hl
  refine lv_aload_n hx hb d_X_init_0 rfl (zl hl rfl) ?_
  refine W.objInit hx hb hown (hts _ tw_55) (hts _ tw_56) (hts _ tw_57) rfl (by rw [hml]; exact hl.1) rfl d_X_init_1 (Nat.le_of_ble_eq_true rfl) (Nat.le_of_ble_eq_true rfl) ?_
  refine W.eq (g2 := F0 m 4 ls []) rfl ?_
  refine lv_aload_n hx hb d_X_init_4 rfl (zl hl rfl) ?_
  refine lv_iconst (v := 4) hx hb d_X_init_5 (by decide) ?_
  refine z_newq (C := "LoanRounds$Queue") hx hb hts hown tw_58 hZA.1.2.1 hK hP hD hS hA0 2 rfl 4 rfl (by decide) (Nat.le_of_ble_eq_true rfl) (Nat.le_of_ble_eq_true rfl) d_X_init_6 (fun qa ws H hP hD hS uqa hneqa hqqa => ?_)
  have hn0qa : ∀ (b : Nat) (fe : va_E), b ≠ a → zin ws0 b fe → b ≠ qa := fun b fe n1 hz => hneqa b fe (hFr b fe n1 (fun z => nomatch z) hz)
  have hFr : zfrT a none ws0 ws := fun b fe n1 n2 hz => uqa.2 _ _ (hFr b fe n1 n2 hz)
  have z_1 := uqa.2 _ _ hz
  have hD0 := hD
  refine z_putF (C := R_X) (T := F_X) (N := 5) (v := .ref qa) hx hb hts inT_X ft_X ft_X_ok fn_X hown hK hP hD hS z_1 rfl 0 (by decide) tw_133 (fun _ h => h) rfl hin rfl rfl rfl (by simp) d_X_init_9 (fun ws H locs hP hD hS u_2 => ?_)
  have z_3 : zin ws a (.inr (3, [.ref qa, .null, .null, .int 0, .int 0])) := u_2.1
  have z_4 := u_2.2 _ _ (zin_ne hD0 uqa.1 z_1 (by intro h; cases h)) uqa.1
  have hFr := zfrT_a hFr u_2
  refine lv_aload_n hx hb d_X_init_12 rfl (zl hl rfl) ?_
  refine lv_bipush (v := 8) hx hb d_X_init_13 (by decide) ?_
  refine z_newq (C := "LoanRounds$Group") hx hb hts hown tw_60 hZA.1.2.2 hK hP hD hS hA0 3 rfl 8 rfl (by decide) (Nat.le_of_ble_eq_true rfl) (Nat.le_of_ble_eq_true rfl) d_X_init_15 (fun ga ws H hP hD hS uga hnega hqga => ?_)
  have hn0ga : ∀ (b : Nat) (fe : va_E), b ≠ a → zin ws0 b fe → b ≠ ga := fun b fe n1 hz => hnega b fe (hFr b fe n1 (fun z => nomatch z) hz)
  have hFr : zfrT a none ws0 ws := fun b fe n1 n2 hz => uga.2 _ _ (hFr b fe n1 n2 hz)
  have z_5 := uga.2 _ _ z_4
  have z_6 := uga.2 _ _ z_3
  have hD0 := hD
  refine z_putF (C := R_X) (T := F_X) (N := 5) (v := .ref ga) hx hb hts inT_X ft_X ft_X_ok fn_X hown hK hP hD hS z_6 rfl 1 (by decide) tw_134 (fun _ h => h) rfl hin rfl rfl rfl (by simp) d_X_init_18 (fun ws H locs hP hD hS u_7 => ?_)
  have z_8 : zin ws a (.inr (3, [.ref qa, .ref ga, .null, .int 0, .int 0])) := u_7.1
  have z_9 := u_7.2 _ _ (zin_ne hD0 z_5 z_6 (by intro h; cases h)) z_5
  have z_10 := u_7.2 _ _ (zin_ne hD0 uga.1 z_6 (by intro h; cases h)) uga.1
  have hFr := zfrT_a hFr u_7
  refine lv_aload_n hx hb d_X_init_21 rfl (zl hl rfl) ?_
  refine z_new (ci := 5) (C := R_A) (T := F_A) (N := 3) (fs := [.null, .int 0, .int 0]) hx hb hts inT_A ft_A ft_A_ok hown tw_62 tw_63 tw_33 hK hP hD hS hA0 rfl (by decide +kernel) (Nat.le_of_ble_eq_true rfl) (Nat.le_of_ble_eq_true rfl) d_X_init_22 (fun la ws H hP hD hS ula hnela => ?_)
  have hn0la : ∀ (b : Nat) (fe : va_E), b ≠ a → zin ws0 b fe → b ≠ la := fun b fe n1 hz => hnela b fe (hFr b fe n1 (fun z => nomatch z) hz)
  have hFr : zfrT a none ws0 ws := fun b fe n1 n2 hz => ula.2 _ _ (hFr b fe n1 n2 hz)
  have z_11 := ula.2 _ _ z_9
  have z_12 := ula.2 _ _ z_10
  have z_13 := ula.2 _ _ z_8
  refine lv_dup hx hb d_X_init_25 rfl ?_
  have hD0 := hD
  refine z_call (va_runI (As := []) (rest := [.ref la, .ref a]) ⟨hx, hb, hml, hown, hts⟩ (c_A_init l hP hD (Nat.le_trans hB hS.1) ula.1) (cwI 0 hts (tt_in tw_66) rfl rfl rfl (hts _ tw_33) (hts _ tw_64) (hts _ tw_65) rfl (by decide +kernel) ⟨Nat.le_of_ble_eq_true rfl, Nat.le_of_ble_eq_true rfl⟩) (zPa_S hKN (hZA.on hS)) rfl rfl hl.1 rfl (lv_room (Nat.le_of_ble_eq_true rfl)) d_X_init_26 ⟨Nat.le_of_ble_eq_true rfl, Nat.le_of_ble_eq_true rfl⟩) hS (fun ws H locs hR hP hD hz9 hS => ?_)
  have hFr : zfrT a none ws0 ws := fun b fe n1 n2 hz => hR.2 _ _ (hn0la b fe n1 hz) (hFr b fe n1 n2 hz)
  have z_14 := hR.2 _ _ (zin_ne hD0 z_11 ula.1 (by intro h; cases h)) z_11
  have z_15 := hR.2 _ _ (zin_ne hD0 z_12 ula.1 (by intro h; cases h)) z_12
  have z_16 := hR.2 _ _ (zin_ne hD0 z_13 ula.1 (by intro h; cases h)) z_13
  have hD0 := hD
  refine z_putF (C := R_X) (T := F_X) (N := 5) (v := .ref la) hx hb hts inT_X ft_X ft_X_ok fn_X hown hK hP hD hS z_16 rfl 2 (by decide) tw_135 (fun _ h => h) rfl hin rfl rfl rfl (by simp) d_X_init_29 (fun ws H locs hP hD hS u_17 => ?_)
  have z_18 : zin ws a (.inr (3, [.ref qa, .ref ga, .ref la, .int 0, .int 0])) := u_17.1
  have z_19 := u_17.2 _ _ (zin_ne hD0 z_14 z_16 (by intro h; cases h)) z_14
  have z_20 := u_17.2 _ _ (zin_ne hD0 z_15 z_16 (by intro h; cases h)) z_15
  have z_21 := u_17.2 _ _ (zin_ne hD0 hR.1 z_16 (by intro h; cases h)) hR.1
  have hFr := zfrT_a hFr u_17
  refine lv_aload_n hx hb d_X_init_32 rfl (zl hl rfl) ?_
  refine lv_iconst (v := 0) hx hb d_X_init_33 (by decide) ?_
  have hD0 := hD
  refine z_put (C := R_X) (T := F_X) (N := 5) (v := .int 0) hx hb hts inT_X ft_X ft_X_ok fn_X hown hK hP hD hS z_18 rfl 3 (by decide) tw_136 (fun _ h => h) rfl rfl rfl (by simp) d_X_init_34 (fun ws H locs hP hD hS u_22 => ?_)
  have z_23 : zin ws a (.inr (3, [.ref qa, .ref ga, .ref la, .int 0, .int 0])) := u_22.1
  have z_24 := u_22.2 _ _ (zin_ne hD0 z_19 z_18 (by intro h; cases h)) z_19
  have z_25 := u_22.2 _ _ (zin_ne hD0 z_20 z_18 (by intro h; cases h)) z_20
  have z_26 := u_22.2 _ _ (zin_ne hD0 z_21 z_18 (by intro h; cases h)) z_21
  have hFr := zfrT_a hFr u_22
  refine lv_aload_n hx hb d_X_init_37 rfl (zl hl rfl) ?_
  refine lv_iconst (v := 0) hx hb d_X_init_38 (by decide) ?_
  have hD0 := hD
  refine z_put (C := R_X) (T := F_X) (N := 5) (v := .int 0) hx hb hts inT_X ft_X ft_X_ok fn_X hown hK hP hD hS z_23 rfl 4 (by decide) tw_137 (fun _ h => h) rfl rfl rfl (by simp) d_X_init_39 (fun ws H locs hP hD hS u_27 => ?_)
  have z_28 : zin ws a (.inr (3, [.ref qa, .ref ga, .ref la, .int 0, .int 0])) := u_27.1
  have z_29 := u_27.2 _ _ (zin_ne hD0 z_24 z_23 (by intro h; cases h)) z_24
  have z_30 := u_27.2 _ _ (zin_ne hD0 z_25 z_23 (by intro h; cases h)) z_25
  have z_31 := u_27.2 _ _ (zin_ne hD0 z_26 z_23 (by intro h; cases h)) z_26
  have hFr := zfrT_a hFr u_27
  refine lv_iconst (v := 0) hx hb d_X_init_42 (by decide) ?_
  refine lv_istore_n (lv' := [(1, .int 0), (0, .ref a)]) hx hb d_X_init_43 rfl hl (by decide) rfl (fun ls hl => ?_)
  have zx := z_28
  have zq := z_29
  have zg := z_30
  have zL := z_31
  have keyg : ∀ (r i : Nat) (qad gad : Nat → Nat) (qar gar : Nat → Option Nat) (ws : va_W) (H : Heap) (ls : Array Slot) (locs : List Loc), i ≤ 8 → 9 ≤ i + r → zin ws a (.inr (3, [.ref qa, .ref ga, .ref la, .int 0, .int 0])) → zin ws qa (.inl (kk 2, 4, .inr (.inr (.inr (.inr qar))))) → zin ws ga (.inl (kk 3, 8, .inr (.inr (.inr (.inr gar))))) → zin ws la (.inr (5, [.ref e0, .int 0, .int 0])) → (∀ j, j < 4 → qar j = some (qad j) ∧ zin ws (qad j) (.inr (1, [.int 10, .int 5, .int 1, .int 60, .int 0, .int 0]))) → (∀ i1 j1, i1 < 4 → j1 < 4 → qad i1 = qad j1 → i1 = j1) → (∀ j, j < i → gar j = some (gad j) ∧ zin ws (gad j) (.inr (0, [.int 8, .int 0]))) → (∀ i1 j1, i1 < i → j1 < i → gad i1 = gad j1 → i1 = j1) → zfrT a none ws0 ws → va_P D vwCl ws H → va_D (fun q => B ≤ q) ws → va_S (fun q => B ≤ q) s.heap H locs → lv_has ls 2 [(0, .ref a), (1, .int (nI i))] → W p l e ({ frames := 6, cells := 15, slots := 55, locals := 240 }) s m ([.ref a] : List Value).toArray below meth c H locs (7 + i) (39 + 2 * i) (MQ below (zR D vwCl B none (fun ws' => (∃ (xa qad gad : Nat → Nat) (qar gar : Nat → Option Nat), xa 0 = a ∧ ∀ ky, PX kk xa qad gad (fun _ => 0) e0 0 0 0 f0 ky (fun _ _ => 0) qar gar (fun _ => none) e0 0 0 ws') ∧ ∀ (b : Nat) (f : va_E), b ≠ a → zin ws0 b f → zin ws' b f)) ([.ref a] : List Value).toArray s 15 55 (fun q => B ≤ q)) (F0 m 74 ls []) := by
    intro r
    induction r with
    | zero => intro i qad gad qar gar ws H ls locs h1 h2; omega
    | succ r ih =>
      intro i qad gad qar gar ws H ls locs hi hir zx zq zg zL hqs hqi hgs hgi hFr hP hD hS hl
      refine lv_iload_n hx hb d_X_init_74 rfl (zl hl rfl) ?_
      refine lv_aload_n hx hb d_X_init_75 rfl (zl hl rfl) ?_
      refine z_get (C := R_X) (T := F_X) (N := 5) (v := .ref ga) hx hb hts inT_X hown hK hP zx rfl 1 (by decide) tw_134 (fun _ h => h) rfl d_X_init_76 ?_
      refine z_alen hx hb hK hP 3 zg rfl d_X_init_79 ?_
      refine lv_icmp_ge (tgt := 102) hx hb d_X_init_80 (by decide) (fun c_1 => ?_) (fun c_1 => ?_)
      · have hin9 := z_ge hi (by decide) c_1
        subst hin9
        refine W.widen (k := 15) (n := 55) (by omega) (by omega) ?_
        refine z_vretR hx hb hr hlocks hP hD hS ⟨⟨xaF a qa ga la, qad, gad, qar, gar, rfl, fun ky => ⟨zx, zq, zg, zL, Or.inl ⟨rfl, rfl⟩, fun j hj => ⟨(hqs j hj).1, ?_⟩, fun j hj => ⟨(hgs j hj).1, ?_⟩, fun k hk => absurd hk (by omega), fun k hk => absurd hk (by omega), fun k hk => absurd hk (by omega), fun k hk => absurd hk (by omega), hqi, hgi, by decide⟩⟩, fun b fe hb hz => hFr b fe hb (fun z => nomatch z) hz⟩ d_X_init_102
        · obtain ⟨e1, e2, e3, e4, e5, e6⟩ := f0_10 j hj
          unfold qcl
          rw [e1, e2, e3, e4, e5, e6]
          exact (hqs j hj).2
        · unfold gcl
          rw [f0_11 j hj]
          exact (hgs j hj).2
      · have hlt := z_lt hi (by decide) c_1
        refine lv_aload_n hx hb d_X_init_83 rfl (zl hl rfl) ?_
        refine z_get (C := R_X) (T := F_X) (N := 5) (v := .ref ga) hx hb hts inT_X hown hK hP zx rfl 1 (by decide) tw_134 (fun _ h => h) rfl d_X_init_84 ?_
        refine lv_iload_n hx hb d_X_init_87 rfl (zl hl rfl) ?_
        refine z_new (ci := 0) (C := R_G) (T := F_G) (N := 2) (fs := [.int 0, .int 0]) hx hb hts inT_G ft_G ft_G_ok hown tw_60 tw_117 tw_35 hK hP hD hS hA0 rfl (by decide +kernel) (by show 7 + i + 1 ≤ 15; omega) (by show 39 + 2 * i + 2 ≤ 55; omega) d_X_init_88 (fun q ws1 H hP hD hS uq hneq => ?_)
        refine W.widen (k := 7 + (i + 1)) (n := 39 + 2 * (i + 1)) (by omega) (by omega) ?_
        refine lv_dup hx hb d_X_init_91 rfl ?_
        refine z_call (va_runIN (As := []) (rest := [.ref q, .int (nI i), .ref ga]) ⟨hx, hb, hml, hown, hts⟩ (c_G_init l hP hD uq.1) ⟨va_cnB 0 hts (tt_in tw_120) rfl rfl rfl hN.2.1 (hts _ tw_35) (by decide +kernel) ⟨Nat.le_of_ble_eq_true rfl, Nat.le_of_ble_eq_true rfl⟩, rfl, hts _ tw_119⟩ (zPc_S hKN) rfl rfl hl.1 rfl (lv_room (Nat.le_of_ble_eq_true rfl)) d_X_init_92 ⟨by show 7 + (i + 1) + 0 ≤ 15; omega, by show 39 + 2 * (i + 1) + 0 ≤ 55; omega⟩) hS (fun ws2 H locs hR hP hD hz9 hS => ?_)
        have kp : ∀ (b : Nat) (fe : va_E), zin ws b fe → zin ws2 b fe := fun b fe hz => hR.2 _ _ (hneq b fe hz) (uq.2 _ _ hz)
        have hD2 := hD
        refine z_aast (r := (R_G, F_G, 2)) hx hb hK hP hD hS 3 0 (kp _ _ zg) rfl hR.1 rfl i rfl (by omega) (by decide) d_X_init_95 (fun ws3 H locs hP hD hS uA => ?_)
        have kp3 : ∀ (b : Nat) (fe : va_E), fe ≠ (.inl (kk 3, 8, .inr (.inr (.inr (.inr gar))))) → zin ws b fe → zin ws3 b fe := fun b fe hne hz => uA.2 _ _ (zin_ne hD2 (kp _ _ hz) (kp _ _ zg) hne) (kp _ _ hz)
        have hq3 : zin ws3 q (.inr (0, [.int 8, .int 0])) := uA.2 _ _ (zin_ne hD2 hR.1 (kp _ _ zg) (by intro h; cases h)) hR.1
        have hne3 : ∀ (b : Nat) (fe : va_E), b ≠ a → zin ws0 b fe → b ≠ q := fun b fe n1 hz => hneq b fe (hFr b fe n1 (fun z => nomatch z) hz)
        have hFr : zfrT a none ws0 ws3 := fun b fe n1 n2 hz => uA.2 _ _ (hn0ga b fe n1 hz) (kp _ _ (hFr b fe n1 n2 hz))
        refine lv_iinc (v := (nI (i + 1))) (lv' := [(1, .int (nI (i + 1))), (0, .ref a)]) hx hb d_X_init_96 hl (k := 1) rfl (nI_1 i) (by decide) rfl (fun ls hl => ?_)
        refine lv_goto (tgt := 74) hx hb d_X_init_99 (by decide) ?_
        exact ih (i + 1) qad (va_up gad i q) qar (va_up gar i (some q)) ws3 H ls locs (by omega) (by omega) (kp3 _ _ (by intro h; cases h) zx) (kp3 _ _ zneQG zq) uA.1 (kp3 _ _ (by intro h; cases h) zL) (fun j hj => ⟨(hqs j hj).1, kp3 _ _ (by intro h; cases h) (hqs j hj).2⟩) hqi (fun j hj => by
            by_cases e : j = i
            · subst e
              exact ⟨by rw [va_up_self, va_up_self], by rw [va_up_self]; exact hq3⟩
            · rw [va_up_ne _ _ e, va_up_ne _ _ e]
              exact ⟨(hgs j (by omega)).1, kp3 _ _ (by intro h; cases h) (hgs j (by omega)).2⟩) (fun i1 j1 h1 h2 hij => by
            by_cases e1 : i1 = i
            · by_cases e2 : j1 = i
              · omega
              · rw [e1, va_up_self, va_up_ne _ _ e2] at hij
                exact absurd hij.symm (hneq _ _ (hgs j1 (by omega)).2)
            · by_cases e2 : j1 = i
              · rw [e2, va_up_self, va_up_ne _ _ e1] at hij
                exact absurd hij (hneq _ _ (hgs i1 (by omega)).2)
              · rw [va_up_ne _ _ e1, va_up_ne _ _ e2] at hij
                exact hgi _ _ (by omega) (by omega) hij) hFr hP hD hS (lv_sub hl [1, 0] rfl)
  have keyq : ∀ (r i : Nat) (qad gad : Nat → Nat) (qar gar : Nat → Option Nat) (ws : va_W) (H : Heap) (ls : Array Slot) (locs : List Loc), i ≤ 4 → 5 ≤ i + r → zin ws a (.inr (3, [.ref qa, .ref ga, .ref la, .int 0, .int 0])) → zin ws qa (.inl (kk 2, 4, .inr (.inr (.inr (.inr qar))))) → zin ws ga (.inl (kk 3, 8, .inr (.inr (.inr (.inr gar))))) → zin ws la (.inr (5, [.ref e0, .int 0, .int 0])) → (∀ j, j < i → qar j = some (qad j) ∧ zin ws (qad j) (.inr (1, [.int 10, .int 5, .int 1, .int 60, .int 0, .int 0]))) → (∀ i1 j1, i1 < i → j1 < i → qad i1 = qad j1 → i1 = j1) → (∀ j, j < 0 → gar j = some (gad j) ∧ zin ws (gad j) (.inr (0, [.int 8, .int 0]))) → (∀ i1 j1, i1 < 0 → j1 < 0 → gad i1 = gad j1 → i1 = j1) → zfrT a none ws0 ws → va_P D vwCl ws H → va_D (fun q => B ≤ q) ws → va_S (fun q => B ≤ q) s.heap H locs → lv_has ls 2 [(0, .ref a), (1, .int (nI i))] → W p l e ({ frames := 6, cells := 15, slots := 55, locals := 240 }) s m ([.ref a] : List Value).toArray below meth c H locs (3 + i) (15 + 6 * i) (MQ below (zR D vwCl B none (fun ws' => (∃ (xa qad gad : Nat → Nat) (qar gar : Nat → Option Nat), xa 0 = a ∧ ∀ ky, PX kk xa qad gad (fun _ => 0) e0 0 0 0 f0 ky (fun _ _ => 0) qar gar (fun _ => none) e0 0 0 ws') ∧ ∀ (b : Nat) (f : va_E), b ≠ a → zin ws0 b f → zin ws' b f)) ([.ref a] : List Value).toArray s 15 55 (fun q => B ≤ q)) (F0 m 44 ls []) := by
    intro r
    induction r with
    | zero => intro i qad gad qar gar ws H ls locs h1 h2; omega
    | succ r ih =>
      intro i qad gad qar gar ws H ls locs hi hir zx zq zg zL hqs hqi hgs hgi hFr hP hD hS hl
      refine lv_iload_n hx hb d_X_init_44 rfl (zl hl rfl) ?_
      refine lv_aload_n hx hb d_X_init_45 rfl (zl hl rfl) ?_
      refine z_get (C := R_X) (T := F_X) (N := 5) (v := .ref qa) hx hb hts inT_X hown hK hP zx rfl 0 (by decide) tw_133 (fun _ h => h) rfl d_X_init_46 ?_
      refine z_alen hx hb hK hP 2 zq rfl d_X_init_49 ?_
      refine lv_icmp_ge (tgt := 72) hx hb d_X_init_50 (by decide) (fun c_1 => ?_) (fun c_1 => ?_)
      · have hin9 := z_ge hi (by decide) c_1
        refine lv_iconst (v := 0) hx hb d_X_init_72 (by decide) ?_
        refine lv_istore_n (lv' := [(1, .int 0), (0, .ref a)]) hx hb d_X_init_73 rfl hl (by decide) rfl (fun ls hl => ?_)
        refine W.widen (k := 7) (n := 39) (by omega) (by omega) ?_
        exact keyg 9 0 qad gad qar gar ws H ls locs (by decide) (by decide) zx zq zg zL (fun j hj => hqs j (by omega)) (fun i1 j1 h1 h2 => hqi i1 j1 (by omega) (by omega)) (fun j hj => absurd hj (by omega)) (fun i1 j1 h1 => absurd h1 (by omega)) hFr hP hD hS (lv_sub hl [1, 0] rfl)
      · have hlt := z_lt hi (by decide) c_1
        refine lv_aload_n hx hb d_X_init_53 rfl (zl hl rfl) ?_
        refine z_get (C := R_X) (T := F_X) (N := 5) (v := .ref qa) hx hb hts inT_X hown hK hP zx rfl 0 (by decide) tw_133 (fun _ h => h) rfl d_X_init_54 ?_
        refine lv_iload_n hx hb d_X_init_57 rfl (zl hl rfl) ?_
        refine z_new (ci := 1) (C := R_Q) (T := F_Q) (N := 6) (fs := [.int 0, .int 0, .int 0, .int 0, .int 0, .int 0]) hx hb hts inT_Q ft_Q ft_Q_ok hown tw_58 tw_88 tw_34 hK hP hD hS hA0 rfl (by decide +kernel) (by show 3 + i + 1 ≤ 15; omega) (by show 15 + 6 * i + 6 ≤ 55; omega) d_X_init_58 (fun q ws1 H hP hD hS uq hneq => ?_)
        refine W.widen (k := 3 + (i + 1)) (n := 15 + 6 * (i + 1)) (by omega) (by omega) ?_
        refine lv_dup hx hb d_X_init_61 rfl ?_
        refine z_call (va_runIN (As := []) (rest := [.ref q, .int (nI i), .ref qa]) ⟨hx, hb, hml, hown, hts⟩ (c_Q_init l hP hD uq.1) ⟨va_cnB 0 hts (tt_in tw_91) rfl rfl rfl hN.1 (hts _ tw_34) (by decide +kernel) ⟨Nat.le_of_ble_eq_true rfl, Nat.le_of_ble_eq_true rfl⟩, rfl, hts _ tw_90⟩ (zPc_S hKN) rfl rfl hl.1 rfl (lv_room (Nat.le_of_ble_eq_true rfl)) d_X_init_62 ⟨by show 3 + (i + 1) + 0 ≤ 15; omega, by show 15 + 6 * (i + 1) + 0 ≤ 55; omega⟩) hS (fun ws2 H locs hR hP hD hz9 hS => ?_)
        have kp : ∀ (b : Nat) (fe : va_E), zin ws b fe → zin ws2 b fe := fun b fe hz => hR.2 _ _ (hneq b fe hz) (uq.2 _ _ hz)
        have hD2 := hD
        refine z_aast (r := (R_Q, F_Q, 6)) hx hb hK hP hD hS 2 1 (kp _ _ zq) rfl hR.1 rfl i rfl (by omega) (by decide) d_X_init_65 (fun ws3 H locs hP hD hS uA => ?_)
        have kp3 : ∀ (b : Nat) (fe : va_E), fe ≠ (.inl (kk 2, 4, .inr (.inr (.inr (.inr qar))))) → zin ws b fe → zin ws3 b fe := fun b fe hne hz => uA.2 _ _ (zin_ne hD2 (kp _ _ hz) (kp _ _ zq) hne) (kp _ _ hz)
        have hq3 : zin ws3 q (.inr (1, [.int 10, .int 5, .int 1, .int 60, .int 0, .int 0])) := uA.2 _ _ (zin_ne hD2 hR.1 (kp _ _ zq) (by intro h; cases h)) hR.1
        have hne3 : ∀ (b : Nat) (fe : va_E), b ≠ a → zin ws0 b fe → b ≠ q := fun b fe n1 hz => hneq b fe (hFr b fe n1 (fun z => nomatch z) hz)
        have hFr : zfrT a none ws0 ws3 := fun b fe n1 n2 hz => uA.2 _ _ (hn0qa b fe n1 hz) (kp _ _ (hFr b fe n1 n2 hz))
        refine lv_iinc (v := (nI (i + 1))) (lv' := [(1, .int (nI (i + 1))), (0, .ref a)]) hx hb d_X_init_66 hl (k := 1) rfl (nI_1 i) (by decide) rfl (fun ls hl => ?_)
        refine lv_goto (tgt := 44) hx hb d_X_init_69 (by decide) ?_
        exact ih (i + 1) (va_up qad i q) gad (va_up qar i (some q)) gar ws3 H ls locs (by omega) (by omega) (kp3 _ _ (by intro h; cases h) zx) uA.1 (kp3 _ _ zneGQ zg) (kp3 _ _ (by intro h; cases h) zL) (fun j hj => by
            by_cases e : j = i
            · subst e
              exact ⟨by rw [va_up_self, va_up_self], by rw [va_up_self]; exact hq3⟩
            · rw [va_up_ne _ _ e, va_up_ne _ _ e]
              exact ⟨(hqs j (by omega)).1, kp3 _ _ (by intro h; cases h) (hqs j (by omega)).2⟩) (fun i1 j1 h1 h2 hij => by
            by_cases e1 : i1 = i
            · by_cases e2 : j1 = i
              · omega
              · rw [e1, va_up_self, va_up_ne _ _ e2] at hij
                exact absurd hij.symm (hneq _ _ (hqs j1 (by omega)).2)
            · by_cases e2 : j1 = i
              · rw [e2, va_up_self, va_up_ne _ _ e1] at hij
                exact absurd hij (hneq _ _ (hqs i1 (by omega)).2)
              · rw [va_up_ne _ _ e1, va_up_ne _ _ e2] at hij
                exact hqi _ _ (by omega) (by omega) hij) (fun j hj => absurd hj (by omega)) (fun i1 j1 h1 => absurd h1 (by omega)) hFr hP hD hS (lv_sub hl [1, 0] rfl)
  exact keyq 5 0 (fun _ => 0) (fun _ => 0) (fun _ => none) (fun _ => none) ws H ls locs (by decide) (by decide) zx zq zg zL (fun j hj => absurd hj (by omega)) (fun i1 j1 h1 => absurd h1 (by omega)) (fun j hj => absurd hj (by omega)) (fun i1 j1 h1 => absurd h1 (by omega)) hFr hP hD hS (lv_sub hl [1, 0] rfl)

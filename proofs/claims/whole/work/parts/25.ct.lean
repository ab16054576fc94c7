set_option maxHeartbeats 4000000 in
set_option maxRecDepth 100000 in
theorem c_Q_init (l : Launch) {D : va_G} {tys : List (ClassId × FieldType)} {ws : va_W} {H : Heap} {B : Nat} (hP : va_P D vwCl ws H) (hD : va_D (fun q => B ≤ q) ws) {a : Nat} (hz : zin ws a (.inr (1, [.int 0, .int 0, .int 0, .int 0, .int 0, .int 0]))) : Met l y_Q_init (Cond.code y_Q_init b_Q_init 1 none :: TT) ({ frames := 2, cells := 0, slots := 0, locals := 80 }) (zPc [.ref a] H D vwCl tys) (zR D vwCl B none (fun ws' => zupd ws a (.inr (1, [.int 10, .int 5, .int 1, .int 60, .int 0, .int 0])) ws')) 0 0 (fun q => B ≤ q) := by
  refine z_bodyN (by decide) (Nat.le_of_ble_eq_true rfl) ?_
  intro p e s m below meth c ls C0 hin hH hKN hl
  obtain ⟨hx, hb, hr, hts, hown, hlocks, hml⟩ := C0
  subst hH
  have hK := hKN.1
  have hN := hKN.2
  have hS : va_S (fun q => B ≤ q) s.heap s.heap [] := va_S.rf
  have hFr : zfrT a none ws ws := zfrT_rf
  have hl : lv_has ls 1 [(0, .ref a)] := hl
  refine lv_aload_n hx hb d_Q_init_0 rfl (zl hl rfl) ?_
  refine W.objInit hx hb hown (hts _ tw_92) (hts _ tw_56) (hts _ tw_57) rfl (by rw [hml]; exact hl.1) rfl d_Q_init_1 (Nat.le_of_ble_eq_true rfl) (Nat.le_of_ble_eq_true rfl) ?_
  refine W.eq (g2 := F0 m 4 ls []) rfl ?_
  refine lv_aload_n hx hb d_Q_init_4 rfl (zl hl rfl) ?_
  refine lv_bipush (v := 10) hx hb d_Q_init_5 (by decide) ?_
  have hD0 := hD
  refine z_put (C := R_Q) (T := F_Q) (N := 6) (v := .int 10) hx hb hts inT_Q ft_Q ft_Q_ok fn_Q hown hK hP hD hS hz rfl 0 (by decide) tw_93 (fun _ h => h) rfl rfl rfl (by simp) d_Q_init_7 (fun ws H locs hP hD hS u_1 => ?_)
  have z_2 : zin ws a (.inr (1, [.int 10, .int 0, .int 0, .int 0, .int 0, .int 0])) := u_1.1
  have hFr := zfrT_a hFr u_1
  refine lv_aload_n hx hb d_Q_init_10 rfl (zl hl rfl) ?_
  refine lv_iconst (v := 5) hx hb d_Q_init_11 (by decide) ?_
  have hD0 := hD
  refine z_put (C := R_Q) (T := F_Q) (N := 6) (v := .int 5) hx hb hts inT_Q ft_Q ft_Q_ok fn_Q hown hK hP hD hS z_2 rfl 1 (by decide) tw_96 (fun _ h => h) rfl rfl rfl (by simp) d_Q_init_12 (fun ws H locs hP hD hS u_3 => ?_)
  have z_4 : zin ws a (.inr (1, [.int 10, .int 5, .int 0, .int 0, .int 0, .int 0])) := u_3.1
  have hFr := zfrT_a hFr u_3
  refine lv_aload_n hx hb d_Q_init_15 rfl (zl hl rfl) ?_
  refine lv_iconst (v := 1) hx hb d_Q_init_16 (by decide) ?_
  have hD0 := hD
  refine z_put (C := R_Q) (T := F_Q) (N := 6) (v := .int 1) hx hb hts inT_Q ft_Q ft_Q_ok fn_Q hown hK hP hD hS z_4 rfl 2 (by decide) tw_98 (fun _ h => h) rfl rfl rfl (by simp) d_Q_init_17 (fun ws H locs hP hD hS u_5 => ?_)
  have z_6 : zin ws a (.inr (1, [.int 10, .int 5, .int 1, .int 0, .int 0, .int 0])) := u_5.1
  have hFr := zfrT_a hFr u_5
  refine lv_aload_n hx hb d_Q_init_20 rfl (zl hl rfl) ?_
  refine lv_bipush (v := 60) hx hb d_Q_init_21 (by decide) ?_
  have hD0 := hD
  refine z_put (C := R_Q) (T := F_Q) (N := 6) (v := .int 60) hx hb hts inT_Q ft_Q ft_Q_ok fn_Q hown hK hP hD hS z_6 rfl 3 (by decide) tw_99 (fun _ h => h) rfl rfl rfl (by simp) d_Q_init_23 (fun ws H locs hP hD hS u_7 => ?_)
  have z_8 : zin ws a (.inr (1, [.int 10, .int 5, .int 1, .int 60, .int 0, .int 0])) := u_7.1
  have hFr := zfrT_a hFr u_7
  refine lv_aload_n hx hb d_Q_init_26 rfl (zl hl rfl) ?_
  refine lv_iconst (v := 0) hx hb d_Q_init_27 (by decide) ?_
  have hD0 := hD
  refine z_put (C := R_Q) (T := F_Q) (N := 6) (v := .int 0) hx hb hts inT_Q ft_Q ft_Q_ok fn_Q hown hK hP hD hS z_8 rfl 4 (by decide) tw_100 (fun _ h => h) rfl rfl rfl (by simp) d_Q_init_28 (fun ws H locs hP hD hS u_9 => ?_)
  have z_10 : zin ws a (.inr (1, [.int 10, .int 5, .int 1, .int 60, .int 0, .int 0])) := u_9.1
  have hFr := zfrT_a hFr u_9
  refine lv_aload_n hx hb d_Q_init_31 rfl (zl hl rfl) ?_
  refine lv_iconst (v := 0) hx hb d_Q_init_32 (by decide) ?_
  have hD0 := hD
  refine z_put (C := R_Q) (T := F_Q) (N := 6) (v := .int 0) hx hb hts inT_Q ft_Q ft_Q_ok fn_Q hown hK hP hD hS z_10 rfl 5 (by decide) tw_102 (fun _ h => h) rfl rfl rfl (by simp) d_Q_init_33 (fun ws H locs hP hD hS u_11 => ?_)
  have z_12 : zin ws a (.inr (1, [.int 10, .int 5, .int 1, .int 60, .int 0, .int 0])) := u_11.1
  have hFr := zfrT_a hFr u_11
  exact z_vretR hx hb hr hlocks hP hD hS ⟨z_12, fun b f hb h => hFr b f hb (fun z => nomatch z) h⟩ d_Q_init_36
set_option maxHeartbeats 4000000 in
set_option maxRecDepth 100000 in
theorem c_G_init (l : Launch) {D : va_G} {tys : List (ClassId × FieldType)} {ws : va_W} {H : Heap} {B : Nat} (hP : va_P D vwCl ws H) (hD : va_D (fun q => B ≤ q) ws) {a : Nat} (hz : zin ws a (.inr (0, [.int 0, .int 0]))) : Met l y_G_init (Cond.code y_G_init b_G_init 1 none :: TT) ({ frames := 2, cells := 0, slots := 0, locals := 80 }) (zPc [.ref a] H D vwCl tys) (zR D vwCl B none (fun ws' => zupd ws a (.inr (0, [.int 8, .int 0])) ws')) 0 0 (fun q => B ≤ q) := by
  refine z_bodyN (by decide) (Nat.le_of_ble_eq_true rfl) ?_
  intro p e s m below meth c ls C0 hin hH hKN hl
  obtain ⟨hx, hb, hr, hts, hown, hlocks, hml⟩ := C0
  subst hH
  have hK := hKN.1
  have hN := hKN.2
  have hS : va_S (fun q => B ≤ q) s.heap s.heap [] := va_S.rf
  have hFr : zfrT a none ws ws := zfrT_rf
  have hl : lv_has ls 1 [(0, .ref a)] := hl
  refine lv_aload_n hx hb d_G_init_0 rfl (zl hl rfl) ?_
  refine W.objInit hx hb hown (hts _ tw_121) (hts _ tw_56) (hts _ tw_57) rfl (by rw [hml]; exact hl.1) rfl d_G_init_1 (Nat.le_of_ble_eq_true rfl) (Nat.le_of_ble_eq_true rfl) ?_
  refine W.eq (g2 := F0 m 4 ls []) rfl ?_
  refine lv_aload_n hx hb d_G_init_4 rfl (zl hl rfl) ?_
  refine lv_bipush (v := 8) hx hb d_G_init_5 (by decide) ?_
  have hD0 := hD
  refine z_put (C := R_G) (T := F_G) (N := 2) (v := .int 8) hx hb hts inT_G ft_G ft_G_ok fn_G hown hK hP hD hS hz rfl 0 (by decide) tw_122 (fun _ h => h) rfl rfl rfl (by simp) d_G_init_7 (fun ws H locs hP hD hS u_1 => ?_)
  have z_2 : zin ws a (.inr (0, [.int 8, .int 0])) := u_1.1
  have hFr := zfrT_a hFr u_1
  refine lv_aload_n hx hb d_G_init_10 rfl (zl hl rfl) ?_
  refine lv_iconst (v := 0) hx hb d_G_init_11 (by decide) ?_
  have hD0 := hD
  refine z_put (C := R_G) (T := F_G) (N := 2) (v := .int 0) hx hb hts inT_G ft_G ft_G_ok fn_G hown hK hP hD hS z_2 rfl 1 (by decide) tw_125 (fun _ h => h) rfl rfl rfl (by simp) d_G_init_12 (fun ws H locs hP hD hS u_3 => ?_)
  have z_4 : zin ws a (.inr (0, [.int 8, .int 0])) := u_3.1
  have hFr := zfrT_a hFr u_3
  exact z_vretR hx hb hr hlocks hP hD hS ⟨z_4, fun b f hb h => hFr b f hb (fun z => nomatch z) h⟩ d_G_init_15
set_option maxHeartbeats 4000000 in
set_option maxRecDepth 100000 in
theorem c_T_init_n (l : Launch) {D : va_G} {tys : List (ClassId × FieldType)} {ws : va_W} {H : Heap} {B : Nat} (hP : va_P D vwCl ws H) (hD : va_D (fun q => B ≤ q) ws) {a : Nat} (hz : zin ws a (.inr (2, [.int 0, .null, .int 0, .null, .long 0, .int 0, .int 0, .int 0, .int 0, .int 0, .int 0, .int 0]))) (num : Int32) (qa : Nat) (rank : Int32) (key : Int64) (due : Int32) : Met l y_T_init (Cond.code y_T_init b_T_init 8 none :: TT) ({ frames := 2, cells := 0, slots := 0, locals := 80 }) (zPc [.ref a, .int num, .ref qa, .int rank, .null, .long key, .int due] H D vwCl tys) (zR D vwCl B none (fun ws' => zupd ws a (.inr (2, [.int num, .ref qa, .int rank, .null, .long key, .int 0, .int 0, .int due, .int (-1), .int (-1), .int (-1), .int (-1)])) ws')) 0 0 (fun q => B ≤ q) := by
  refine z_bodyN (by decide) (Nat.le_of_ble_eq_true rfl) ?_
  intro p e s m below meth c ls C0 hin hH hKN hl
  obtain ⟨hx, hb, hr, hts, hown, hlocks, hml⟩ := C0
  subst hH
  have hK := hKN.1
  have hN := hKN.2
  have hS : va_S (fun q => B ≤ q) s.heap s.heap [] := va_S.rf
  have hFr : zfrT a none ws ws := zfrT_rf
  have hl : lv_has ls 8 [(0, .ref a), (1, .int num), (2, .ref qa), (3, .int rank), (4, .null), (5, .long key), (7, .int due)] := hl
  refine lv_aload_n hx hb d_T_init_0 rfl (zl hl rfl) ?_
  refine W.objInit hx hb hown (hts _ tw_396) (hts _ tw_56) (hts _ tw_57) rfl (by rw [hml]; exact hl.1) rfl d_T_init_1 (Nat.le_of_ble_eq_true rfl) (Nat.le_of_ble_eq_true rfl) ?_
  refine W.eq (g2 := F0 m 4 ls []) rfl ?_
  refine lv_aload_n hx hb d_T_init_4 rfl (zl hl rfl) ?_
  refine lv_iconst (v := 0) hx hb d_T_init_5 (by decide) ?_
  have hD0 := hD
  refine z_put (C := R_T) (T := F_T) (N := 12) (v := .int 0) hx hb hts inT_T ft_T ft_T_ok fn_T hown hK hP hD hS hz rfl 5 (by decide) tw_405 (fun _ h => h) rfl rfl rfl (by simp) d_T_init_6 (fun ws H locs hP hD hS u_1 => ?_)
  have z_2 : zin ws a (.inr (2, [.int 0, .null, .int 0, .null, .long 0, .int 0, .int 0, .int 0, .int 0, .int 0, .int 0, .int 0])) := u_1.1
  have hFr := zfrT_a hFr u_1
  refine lv_aload_n hx hb d_T_init_9 rfl (zl hl rfl) ?_
  refine lv_iconst (v := 0) hx hb d_T_init_10 (by decide) ?_
  have hD0 := hD
  refine z_put (C := R_T) (T := F_T) (N := 12) (v := .int 0) hx hb hts inT_T ft_T ft_T_ok fn_T hown hK hP hD hS z_2 rfl 6 (by decide) tw_407 (fun _ h => h) rfl rfl rfl (by simp) d_T_init_11 (fun ws H locs hP hD hS u_3 => ?_)
  have z_4 : zin ws a (.inr (2, [.int 0, .null, .int 0, .null, .long 0, .int 0, .int 0, .int 0, .int 0, .int 0, .int 0, .int 0])) := u_3.1
  have hFr := zfrT_a hFr u_3
  refine lv_aload_n hx hb d_T_init_14 rfl (zl hl rfl) ?_
  refine lv_iconst (v := (-1)) hx hb d_T_init_15 (by decide) ?_
  have hD0 := hD
  refine z_put (C := R_T) (T := F_T) (N := 12) (v := .int (-1)) hx hb hts inT_T ft_T ft_T_ok fn_T hown hK hP hD hS z_4 rfl 8 (by decide) tw_411 (fun _ h => h) rfl rfl rfl (by simp) d_T_init_16 (fun ws H locs hP hD hS u_5 => ?_)
  have z_6 : zin ws a (.inr (2, [.int 0, .null, .int 0, .null, .long 0, .int 0, .int 0, .int 0, .int (-1), .int 0, .int 0, .int 0])) := u_5.1
  have hFr := zfrT_a hFr u_5
  refine lv_aload_n hx hb d_T_init_19 rfl (zl hl rfl) ?_
  refine lv_iconst (v := (-1)) hx hb d_T_init_20 (by decide) ?_
  have hD0 := hD
  refine z_put (C := R_T) (T := F_T) (N := 12) (v := .int (-1)) hx hb hts inT_T ft_T ft_T_ok fn_T hown hK hP hD hS z_6 rfl 9 (by decide) tw_413 (fun _ h => h) rfl rfl rfl (by simp) d_T_init_21 (fun ws H locs hP hD hS u_7 => ?_)
  have z_8 : zin ws a (.inr (2, [.int 0, .null, .int 0, .null, .long 0, .int 0, .int 0, .int 0, .int (-1), .int (-1), .int 0, .int 0])) := u_7.1
  have hFr := zfrT_a hFr u_7
  refine lv_aload_n hx hb d_T_init_24 rfl (zl hl rfl) ?_
  refine lv_iconst (v := (-1)) hx hb d_T_init_25 (by decide) ?_
  have hD0 := hD
  refine z_put (C := R_T) (T := F_T) (N := 12) (v := .int (-1)) hx hb hts inT_T ft_T ft_T_ok fn_T hown hK hP hD hS z_8 rfl 10 (by decide) tw_415 (fun _ h => h) rfl rfl rfl (by simp) d_T_init_26 (fun ws H locs hP hD hS u_9 => ?_)
  have z_10 : zin ws a (.inr (2, [.int 0, .null, .int 0, .null, .long 0, .int 0, .int 0, .int 0, .int (-1), .int (-1), .int (-1), .int 0])) := u_9.1
  have hFr := zfrT_a hFr u_9
  refine lv_aload_n hx hb d_T_init_29 rfl (zl hl rfl) ?_
  refine lv_iconst (v := (-1)) hx hb d_T_init_30 (by decide) ?_
  have hD0 := hD
  refine z_put (C := R_T) (T := F_T) (N := 12) (v := .int (-1)) hx hb hts inT_T ft_T ft_T_ok fn_T hown hK hP hD hS z_10 rfl 11 (by decide) tw_417 (fun _ h => h) rfl rfl rfl (by simp) d_T_init_31 (fun ws H locs hP hD hS u_11 => ?_)
  have z_12 : zin ws a (.inr (2, [.int 0, .null, .int 0, .null, .long 0, .int 0, .int 0, .int 0, .int (-1), .int (-1), .int (-1), .int (-1)])) := u_11.1
  have hFr := zfrT_a hFr u_11
  refine lv_aload_n hx hb d_T_init_34 rfl (zl hl rfl) ?_
  refine lv_iload_n hx hb d_T_init_35 rfl (zl hl rfl) ?_
  have hD0 := hD
  refine z_putF (C := R_T) (T := F_T) (N := 12) (v := .int num) hx hb hts inT_T ft_T ft_T_ok fn_T hown hK hP hD hS z_12 rfl 0 (by decide) tw_397 (fun _ h => h) rfl hin rfl rfl rfl (by simp) d_T_init_36 (fun ws H locs hP hD hS u_13 => ?_)
  have z_14 : zin ws a (.inr (2, [.int num, .null, .int 0, .null, .long 0, .int 0, .int 0, .int 0, .int (-1), .int (-1), .int (-1), .int (-1)])) := u_13.1
  have hFr := zfrT_a hFr u_13
  refine lv_aload_n hx hb d_T_init_39 rfl (zl hl rfl) ?_
  refine lv_aload_n hx hb d_T_init_40 rfl (zl hl rfl) ?_
  have hD0 := hD
  refine z_putF (C := R_T) (T := F_T) (N := 12) (v := .ref qa) hx hb hts inT_T ft_T ft_T_ok fn_T hown hK hP hD hS z_14 rfl 1 (by decide) tw_399 (fun _ h => h) rfl hin rfl rfl rfl (by simp) d_T_init_41 (fun ws H locs hP hD hS u_15 => ?_)
  have z_16 : zin ws a (.inr (2, [.int num, .ref qa, .int 0, .null, .long 0, .int 0, .int 0, .int 0, .int (-1), .int (-1), .int (-1), .int (-1)])) := u_15.1
  have hFr := zfrT_a hFr u_15
  refine lv_aload_n hx hb d_T_init_44 rfl (zl hl rfl) ?_
  refine lv_iload_n hx hb d_T_init_45 rfl (zl hl rfl) ?_
  have hD0 := hD
  refine z_putF (C := R_T) (T := F_T) (N := 12) (v := .int rank) hx hb hts inT_T ft_T ft_T_ok fn_T hown hK hP hD hS z_16 rfl 2 (by decide) tw_401 (fun _ h => h) rfl hin rfl rfl rfl (by simp) d_T_init_46 (fun ws H locs hP hD hS u_17 => ?_)
  have z_18 : zin ws a (.inr (2, [.int num, .ref qa, .int rank, .null, .long 0, .int 0, .int 0, .int 0, .int (-1), .int (-1), .int (-1), .int (-1)])) := u_17.1
  have hFr := zfrT_a hFr u_17
  refine lv_aload_n hx hb d_T_init_49 rfl (zl hl rfl) ?_
  refine lv_aloadN hx hb d_T_init_50 (zl hl rfl) ?_
  have hD0 := hD
  refine z_putF (C := R_T) (T := F_T) (N := 12) (v := .null) hx hb hts inT_T ft_T ft_T_ok fn_T hown hK hP hD hS z_18 rfl 3 (by decide) tw_402 (fun _ h => h) rfl hin rfl rfl rfl (by simp) d_T_init_52 (fun ws H locs hP hD hS u_19 => ?_)
  have z_20 : zin ws a (.inr (2, [.int num, .ref qa, .int rank, .null, .long 0, .int 0, .int 0, .int 0, .int (-1), .int (-1), .int (-1), .int (-1)])) := u_19.1
  have hFr := zfrT_a hFr u_19
  refine lv_aload_n hx hb d_T_init_55 rfl (zl hl rfl) ?_
  refine lv_lload hx hb d_T_init_56 (zl hl rfl) ?_
  have hD0 := hD
  refine z_putF (C := R_T) (T := F_T) (N := 12) (v := .long key) hx hb hts inT_T ft_T ft_T_ok fn_T hown hK hP hD hS z_20 rfl 4 (by decide) tw_403 (fun _ h => h) rfl hin rfl rfl rfl (by simp) d_T_init_58 (fun ws H locs hP hD hS u_21 => ?_)
  have z_22 : zin ws a (.inr (2, [.int num, .ref qa, .int rank, .null, .long key, .int 0, .int 0, .int 0, .int (-1), .int (-1), .int (-1), .int (-1)])) := u_21.1
  have hFr := zfrT_a hFr u_21
  refine lv_aload_n hx hb d_T_init_61 rfl (zl hl rfl) ?_
  refine lv_iload hx hb d_T_init_62 (zl hl rfl) ?_
  have hD0 := hD
  refine z_put (C := R_T) (T := F_T) (N := 12) (v := .int due) hx hb hts inT_T ft_T ft_T_ok fn_T hown hK hP hD hS z_22 rfl 7 (by decide) tw_409 (fun _ h => h) rfl rfl rfl (by simp) d_T_init_64 (fun ws H locs hP hD hS u_23 => ?_)
  have z_24 : zin ws a (.inr (2, [.int num, .ref qa, .int rank, .null, .long key, .int 0, .int 0, .int due, .int (-1), .int (-1), .int (-1), .int (-1)])) := u_23.1
  have hFr := zfrT_a hFr u_23
  exact z_vretR hx hb hr hlocks hP hD hS ⟨z_24, fun b f hb h => hFr b f hb (fun z => nomatch z) h⟩ d_T_init_67
set_option maxHeartbeats 4000000 in
set_option maxRecDepth 100000 in
theorem c_T_init_r (l : Launch) {D : va_G} {tys : List (ClassId × FieldType)} {ws : va_W} {H : Heap} {B : Nat} (hP : va_P D vwCl ws H) (hD : va_D (fun q => B ≤ q) ws) {a : Nat} (hz : zin ws a (.inr (2, [.int 0, .null, .int 0, .null, .long 0, .int 0, .int 0, .int 0, .int 0, .int 0, .int 0, .int 0]))) (num : Int32) (qa : Nat) (rank : Int32) (g : Nat) (key : Int64) (due : Int32) : Met l y_T_init (Cond.code y_T_init b_T_init 8 none :: TT) ({ frames := 2, cells := 0, slots := 0, locals := 80 }) (zPc [.ref a, .int num, .ref qa, .int rank, .ref g, .long key, .int due] H D vwCl tys) (zR D vwCl B none (fun ws' => zupd ws a (.inr (2, [.int num, .ref qa, .int rank, .ref g, .long key, .int 0, .int 0, .int due, .int (-1), .int (-1), .int (-1), .int (-1)])) ws')) 0 0 (fun q => B ≤ q) := by
  refine z_bodyN (by decide) (Nat.le_of_ble_eq_true rfl) ?_
  intro p e s m below meth c ls C0 hin hH hKN hl
  obtain ⟨hx, hb, hr, hts, hown, hlocks, hml⟩ := C0
  subst hH
  have hK := hKN.1
  have hN := hKN.2
  have hS : va_S (fun q => B ≤ q) s.heap s.heap [] := va_S.rf
  have hFr : zfrT a none ws ws := zfrT_rf
  have hl : lv_has ls 8 [(0, .ref a), (1, .int num), (2, .ref qa), (3, .int rank), (4, .ref g), (5, .long key), (7, .int due)] := hl
  refine lv_aload_n hx hb d_T_init_0 rfl (zl hl rfl) ?_
  refine W.objInit hx hb hown (hts _ tw_396) (hts _ tw_56) (hts _ tw_57) rfl (by rw [hml]; exact hl.1) rfl d_T_init_1 (Nat.le_of_ble_eq_true rfl) (Nat.le_of_ble_eq_true rfl) ?_
  refine W.eq (g2 := F0 m 4 ls []) rfl ?_
  refine lv_aload_n hx hb d_T_init_4 rfl (zl hl rfl) ?_
  refine lv_iconst (v := 0) hx hb d_T_init_5 (by decide) ?_
  have hD0 := hD
  refine z_put (C := R_T) (T := F_T) (N := 12) (v := .int 0) hx hb hts inT_T ft_T ft_T_ok fn_T hown hK hP hD hS hz rfl 5 (by decide) tw_405 (fun _ h => h) rfl rfl rfl (by simp) d_T_init_6 (fun ws H locs hP hD hS u_1 => ?_)
  have z_2 : zin ws a (.inr (2, [.int 0, .null, .int 0, .null, .long 0, .int 0, .int 0, .int 0, .int 0, .int 0, .int 0, .int 0])) := u_1.1
  have hFr := zfrT_a hFr u_1
  refine lv_aload_n hx hb d_T_init_9 rfl (zl hl rfl) ?_
  refine lv_iconst (v := 0) hx hb d_T_init_10 (by decide) ?_
  have hD0 := hD
  refine z_put (C := R_T) (T := F_T) (N := 12) (v := .int 0) hx hb hts inT_T ft_T ft_T_ok fn_T hown hK hP hD hS z_2 rfl 6 (by decide) tw_407 (fun _ h => h) rfl rfl rfl (by simp) d_T_init_11 (fun ws H locs hP hD hS u_3 => ?_)
  have z_4 : zin ws a (.inr (2, [.int 0, .null, .int 0, .null, .long 0, .int 0, .int 0, .int 0, .int 0, .int 0, .int 0, .int 0])) := u_3.1
  have hFr := zfrT_a hFr u_3
  refine lv_aload_n hx hb d_T_init_14 rfl (zl hl rfl) ?_
  refine lv_iconst (v := (-1)) hx hb d_T_init_15 (by decide) ?_
  have hD0 := hD
  refine z_put (C := R_T) (T := F_T) (N := 12) (v := .int (-1)) hx hb hts inT_T ft_T ft_T_ok fn_T hown hK hP hD hS z_4 rfl 8 (by decide) tw_411 (fun _ h => h) rfl rfl rfl (by simp) d_T_init_16 (fun ws H locs hP hD hS u_5 => ?_)
  have z_6 : zin ws a (.inr (2, [.int 0, .null, .int 0, .null, .long 0, .int 0, .int 0, .int 0, .int (-1), .int 0, .int 0, .int 0])) := u_5.1
  have hFr := zfrT_a hFr u_5
  refine lv_aload_n hx hb d_T_init_19 rfl (zl hl rfl) ?_
  refine lv_iconst (v := (-1)) hx hb d_T_init_20 (by decide) ?_
  have hD0 := hD
  refine z_put (C := R_T) (T := F_T) (N := 12) (v := .int (-1)) hx hb hts inT_T ft_T ft_T_ok fn_T hown hK hP hD hS z_6 rfl 9 (by decide) tw_413 (fun _ h => h) rfl rfl rfl (by simp) d_T_init_21 (fun ws H locs hP hD hS u_7 => ?_)
  have z_8 : zin ws a (.inr (2, [.int 0, .null, .int 0, .null, .long 0, .int 0, .int 0, .int 0, .int (-1), .int (-1), .int 0, .int 0])) := u_7.1
  have hFr := zfrT_a hFr u_7
  refine lv_aload_n hx hb d_T_init_24 rfl (zl hl rfl) ?_
  refine lv_iconst (v := (-1)) hx hb d_T_init_25 (by decide) ?_
  have hD0 := hD
  refine z_put (C := R_T) (T := F_T) (N := 12) (v := .int (-1)) hx hb hts inT_T ft_T ft_T_ok fn_T hown hK hP hD hS z_8 rfl 10 (by decide) tw_415 (fun _ h => h) rfl rfl rfl (by simp) d_T_init_26 (fun ws H locs hP hD hS u_9 => ?_)
  have z_10 : zin ws a (.inr (2, [.int 0, .null, .int 0, .null, .long 0, .int 0, .int 0, .int 0, .int (-1), .int (-1), .int (-1), .int 0])) := u_9.1
  have hFr := zfrT_a hFr u_9
  refine lv_aload_n hx hb d_T_init_29 rfl (zl hl rfl) ?_
  refine lv_iconst (v := (-1)) hx hb d_T_init_30 (by decide) ?_
  have hD0 := hD
  refine z_put (C := R_T) (T := F_T) (N := 12) (v := .int (-1)) hx hb hts inT_T ft_T ft_T_ok fn_T hown hK hP hD hS z_10 rfl 11 (by decide) tw_417 (fun _ h => h) rfl rfl rfl (by simp) d_T_init_31 (fun ws H locs hP hD hS u_11 => ?_)
  have z_12 : zin ws a (.inr (2, [.int 0, .null, .int 0, .null, .long 0, .int 0, .int 0, .int 0, .int (-1), .int (-1), .int (-1), .int (-1)])) := u_11.1
  have hFr := zfrT_a hFr u_11
  refine lv_aload_n hx hb d_T_init_34 rfl (zl hl rfl) ?_
  refine lv_iload_n hx hb d_T_init_35 rfl (zl hl rfl) ?_
  have hD0 := hD
  refine z_putF (C := R_T) (T := F_T) (N := 12) (v := .int num) hx hb hts inT_T ft_T ft_T_ok fn_T hown hK hP hD hS z_12 rfl 0 (by decide) tw_397 (fun _ h => h) rfl hin rfl rfl rfl (by simp) d_T_init_36 (fun ws H locs hP hD hS u_13 => ?_)
  have z_14 : zin ws a (.inr (2, [.int num, .null, .int 0, .null, .long 0, .int 0, .int 0, .int 0, .int (-1), .int (-1), .int (-1), .int (-1)])) := u_13.1
  have hFr := zfrT_a hFr u_13
  refine lv_aload_n hx hb d_T_init_39 rfl (zl hl rfl) ?_
  refine lv_aload_n hx hb d_T_init_40 rfl (zl hl rfl) ?_
  have hD0 := hD
  refine z_putF (C := R_T) (T := F_T) (N := 12) (v := .ref qa) hx hb hts inT_T ft_T ft_T_ok fn_T hown hK hP hD hS z_14 rfl 1 (by decide) tw_399 (fun _ h => h) rfl hin rfl rfl rfl (by simp) d_T_init_41 (fun ws H locs hP hD hS u_15 => ?_)
  have z_16 : zin ws a (.inr (2, [.int num, .ref qa, .int 0, .null, .long 0, .int 0, .int 0, .int 0, .int (-1), .int (-1), .int (-1), .int (-1)])) := u_15.1
  have hFr := zfrT_a hFr u_15
  refine lv_aload_n hx hb d_T_init_44 rfl (zl hl rfl) ?_
  refine lv_iload_n hx hb d_T_init_45 rfl (zl hl rfl) ?_
  have hD0 := hD
  refine z_putF (C := R_T) (T := F_T) (N := 12) (v := .int rank) hx hb hts inT_T ft_T ft_T_ok fn_T hown hK hP hD hS z_16 rfl 2 (by decide) tw_401 (fun _ h => h) rfl hin rfl rfl rfl (by simp) d_T_init_46 (fun ws H locs hP hD hS u_17 => ?_)
  have z_18 : zin ws a (.inr (2, [.int num, .ref qa, .int rank, .null, .long 0, .int 0, .int 0, .int 0, .int (-1), .int (-1), .int (-1), .int (-1)])) := u_17.1
  have hFr := zfrT_a hFr u_17
  refine lv_aload_n hx hb d_T_init_49 rfl (zl hl rfl) ?_
  refine lv_aload hx hb d_T_init_50 (zl hl rfl) ?_
  have hD0 := hD
  refine z_putF (C := R_T) (T := F_T) (N := 12) (v := .ref g) hx hb hts inT_T ft_T ft_T_ok fn_T hown hK hP hD hS z_18 rfl 3 (by decide) tw_402 (fun _ h => h) rfl hin rfl rfl rfl (by simp) d_T_init_52 (fun ws H locs hP hD hS u_19 => ?_)
  have z_20 : zin ws a (.inr (2, [.int num, .ref qa, .int rank, .ref g, .long 0, .int 0, .int 0, .int 0, .int (-1), .int (-1), .int (-1), .int (-1)])) := u_19.1
  have hFr := zfrT_a hFr u_19
  refine lv_aload_n hx hb d_T_init_55 rfl (zl hl rfl) ?_
  refine lv_lload hx hb d_T_init_56 (zl hl rfl) ?_
  have hD0 := hD
  refine z_putF (C := R_T) (T := F_T) (N := 12) (v := .long key) hx hb hts inT_T ft_T ft_T_ok fn_T hown hK hP hD hS z_20 rfl 4 (by decide) tw_403 (fun _ h => h) rfl hin rfl rfl rfl (by simp) d_T_init_58 (fun ws H locs hP hD hS u_21 => ?_)
  have z_22 : zin ws a (.inr (2, [.int num, .ref qa, .int rank, .ref g, .long key, .int 0, .int 0, .int 0, .int (-1), .int (-1), .int (-1), .int (-1)])) := u_21.1
  have hFr := zfrT_a hFr u_21
  refine lv_aload_n hx hb d_T_init_61 rfl (zl hl rfl) ?_
  refine lv_iload hx hb d_T_init_62 (zl hl rfl) ?_
  have hD0 := hD
  refine z_put (C := R_T) (T := F_T) (N := 12) (v := .int due) hx hb hts inT_T ft_T ft_T_ok fn_T hown hK hP hD hS z_22 rfl 7 (by decide) tw_409 (fun _ h => h) rfl rfl rfl (by simp) d_T_init_64 (fun ws H locs hP hD hS u_23 => ?_)
  have z_24 : zin ws a (.inr (2, [.int num, .ref qa, .int rank, .ref g, .long key, .int 0, .int 0, .int due, .int (-1), .int (-1), .int (-1), .int (-1)])) := u_23.1
  have hFr := zfrT_a hFr u_23
  exact z_vretR hx hb hr hlocks hP hD hS ⟨z_24, fun b f hb h => hFr b f hb (fun z => nomatch z) h⟩ d_T_init_67
theorem c_T_init (l : Launch) {D : va_G} {tys : List (ClassId × FieldType)} {ws : va_W} {H : Heap} {B : Nat} (hP : va_P D vwCl ws H) (hD : va_D (fun q => B ≤ q) ws) {a : Nat} (hz : zin ws a (.inr (2, [.int 0, .null, .int 0, .null, .long 0, .int 0, .int 0, .int 0, .int 0, .int 0, .int 0, .int 0]))) (num : Int32) (qa : Nat) (rank : Int32) (ga : Option Nat) (key : Int64) (due : Int32) : Met l y_T_init (Cond.code y_T_init b_T_init 8 none :: TT) ({ frames := 2, cells := 0, slots := 0, locals := 80 }) (zPc [.ref a, .int num, .ref qa, .int rank, va_rf ga, .long key, .int due] H D vwCl tys) (zR D vwCl B none (fun ws' => zupd ws a (.inr (2, [.int num, .ref qa, .int rank, va_rf ga, .long key, .int 0, .int 0, .int due, .int (-1), .int (-1), .int (-1), .int (-1)])) ws')) 0 0 (fun q => B ≤ q) := by
  cases ga with
  | none => exact c_T_init_n l hP hD hz num qa rank key due
  | some g => exact c_T_init_r l hP hD hz num qa rank g key due
set_option maxHeartbeats 4000000 in
set_option maxRecDepth 100000 in
theorem c_W_init (l : Launch) {D : va_G} {tys : List (ClassId × FieldType)} {ws : va_W} {H : Heap} {B : Nat} (hP : va_P D vwCl ws H) (hD : va_D (fun q => B ≤ q) ws) {a : Nat} (hz : zin ws a (.inr (5, [.null, .int 0, .int 0]))) : Met l y_W_init (Cond.code y_W_init b_W_init 1 none :: TT) ({ frames := 2, cells := 0, slots := 0, locals := 80 }) (zPc [.ref a] H D vwCl tys) (zR D vwCl B none (fun ws' => ws' = ws)) 0 0 (fun q => B ≤ q) := by
  refine z_bodyN (by decide) (Nat.le_of_ble_eq_true rfl) ?_
  intro p e s m below meth c ls C0 hin hH hKN hl
  obtain ⟨hx, hb, hr, hts, hown, hlocks, hml⟩ := C0
  subst hH
  have hK := hKN.1
  have hN := hKN.2
  have hS : va_S (fun q => B ≤ q) s.heap s.heap [] := va_S.rf
  have hFr : zfrT a none ws ws := zfrT_rf
  have hl : lv_has ls 1 [(0, .ref a)] := hl
  refine lv_aload_n hx hb d_W_init_0 rfl (zl hl rfl) ?_
  refine W.objInit hx hb hown (hts _ tw_73) (hts _ tw_56) (hts _ tw_57) rfl (by rw [hml]; exact hl.1) rfl d_W_init_1 (Nat.le_of_ble_eq_true rfl) (Nat.le_of_ble_eq_true rfl) ?_
  refine W.eq (g2 := F0 m 4 ls []) rfl ?_
  exact z_vretR hx hb hr hlocks hP hD hS rfl d_W_init_4
set_option maxHeartbeats 4000000 in
set_option maxRecDepth 100000 in
theorem c_V_init (l : Launch) {D : va_G} {tys : List (ClassId × FieldType)} {ws : va_W} {H : Heap} {B : Nat} (hP : va_P D vwCl ws H) (hD : va_D (fun q => B ≤ q) ws) {a : Nat} (hz : zin ws a (.inr (5, [.null, .int 0, .int 0]))) : Met l y_V_init (Cond.code y_V_init b_V_init 1 none :: TT) ({ frames := 3, cells := 0, slots := 0, locals := 120 }) (zPc [.ref a] H D vwCl tys) (zR D vwCl B none (fun ws' => zupd ws a (.inr (5, [.null, .int 0, .int 0])) ws')) 0 0 (fun q => B ≤ q) := by
  refine z_bodyN (by decide) (Nat.le_of_ble_eq_true rfl) ?_
  intro p e s m below meth c ls C0 hin hH hKN hl
  obtain ⟨hx, hb, hr, hts, hown, hlocks, hml⟩ := C0
  subst hH
  have hK := hKN.1
  have hN := hKN.2
  have hS : va_S (fun q => B ≤ q) s.heap s.heap [] := va_S.rf
  have hFr : zfrT a none ws ws := zfrT_rf
  have hl : lv_has ls 1 [(0, .ref a)] := hl
  refine lv_aload_n hx hb d_V_init_0 rfl (zl hl rfl) ?_
  refine z_call (va_runI (As := []) (rest := []) ⟨hx, hb, hml, hown, hts⟩ (c_W_init l hP hD hz) (cwI 0 hts (tt_in tw_72) rfl rfl rfl (hts _ tw_31) (hts _ tw_70) (hts _ tw_71) rfl (by decide +kernel) ⟨Nat.le_of_ble_eq_true rfl, Nat.le_of_ble_eq_true rfl⟩) (zPc_S hKN) rfl rfl hl.1 rfl (lv_room (Nat.le_of_ble_eq_true rfl)) d_V_init_1 ⟨Nat.le_of_ble_eq_true rfl, Nat.le_of_ble_eq_true rfl⟩) hS (fun ws9 H locs hR hP hD hz9 hS => ?_)
  rw [hR] at hP hD
  refine lv_aload_n hx hb d_V_init_4 rfl (zl hl rfl) ?_
  refine lv_iconst (v := 0) hx hb d_V_init_5 (by decide) ?_
  have hD0 := hD
  refine z_put (C := R_A) (T := F_A) (N := 3) (v := .int 0) hx hb hts inT_A ft_A ft_A_ok fn_A hown hK hP hD hS hz rfl 2 (by decide) tw_78 (fun _ h => h) rfl rfl rfl (by simp) d_V_init_6 (fun ws H locs hP hD hS u_1 => ?_)
  have z_2 : zin ws a (.inr (5, [.null, .int 0, .int 0])) := u_1.1
  have hFr := zfrT_a hFr u_1
  exact z_vretR hx hb hr hlocks hP hD hS ⟨z_2, fun b f hb h => hFr b f hb (fun z => nomatch z) h⟩ d_V_init_9
set_option maxHeartbeats 4000000 in
set_option maxRecDepth 100000 in
theorem c_A_init (l : Launch) {D : va_G} {kk : Nat → ClassId} {ws : va_W} {H : Heap} {e0 mi B : Nat} (hP : va_P D vwCl ws H) (hD : va_D (fun q => B ≤ q) ws) (hB : B ≤ H.size) {a : Nat} (hz : zin ws a (.inr (5, [.null, .int 0, .int 0]))) : Met l y_A_init (Cond.code y_A_init b_A_init 1 none :: TT) ({ frames := 4, cells := 0, slots := 0, locals := 160 }) (zPa [.ref a] H D vwCl (TY kk) e0 mi B) (zR D vwCl B none (fun ws' => zupd ws a (.inr (5, [.ref e0, .int 0, .int 0])) ws')) 0 0 (fun q => B ≤ q) := by
  refine z_bodyA (by decide) (Nat.le_of_ble_eq_true rfl) ?_
  intro p e s m below meth c ls C0 hnm hH hKN hZA hl
  obtain ⟨hx, hb, hr, hts, hown, hlocks, hml⟩ := C0
  subst hH
  have hK := hKN.1
  have hN := hKN.2
  have hS : va_S (fun q => B ≤ q) s.heap s.heap [] := va_S.rf
  have hA0 : ∀ q : Nat, s.heap.size ≤ q → (fun q => B ≤ q) q := fun q h => Nat.le_trans hB h
  have hl : lv_has ls 1 [(0, .ref a)] := hl
  refine lv_aload_n hx hb d_A_init_0 rfl (zl hl rfl) ?_
  refine z_call (va_runI (As := []) (rest := []) ⟨hx, hb, hml, hown, hts⟩ (c_V_init l hP hD hz) (cwI 0 hts (tt_in tw_69) rfl rfl rfl (hts _ tw_32) (hts _ tw_67) (hts _ tw_68) rfl (by decide +kernel) ⟨Nat.le_of_ble_eq_true rfl, Nat.le_of_ble_eq_true rfl⟩) (zPc_S hKN) rfl rfl hl.1 rfl (lv_room (Nat.le_of_ble_eq_true rfl)) d_A_init_1 ⟨Nat.le_of_ble_eq_true rfl, Nat.le_of_ble_eq_true rfl⟩) hS (fun ws9 H locs hR hP hD hz9 hS => ?_)
  have hz := hR.1
  have kp := hR.2
  refine lv_aload_n hx hb d_A_init_4 rfl (zl hl rfl) ?_
  refine va_gets hx hb hZA.2.2.2.1 hS hown (hts _ tw_74) (fun _ h => h) d_A_init_5 ?_
  have hD0 := hD
  refine z_put (C := R_A) (T := F_A) (N := 3) (v := .ref e0) hx hb hts inT_A ft_A ft_A_ok fn_A hown hK hP hD hS hz rfl 0 (by decide) tw_76 (fun _ h => h) rfl rfl rfl (by simp) d_A_init_8 (fun ws H locs hP hD hS u_1 => ?_)
  have z_2 : zin ws a (.inr (5, [.ref e0, .int 0, .int 0])) := u_1.1
  exact z_vretR hx hb hr hlocks hP hD hS ⟨z_2, fun b f hb h => u_1.2 b f hb (kp b f hb h)⟩ d_A_init_11

theorem zl_new {ws ws' : va_W} {q : Nat} {fe : va_E} {L : List Nat} (u : znew ws q fe ws') (h : ∀ b ∈ L, ∃ fe, zin ws b fe) : ∀ b ∈ q :: L, ∃ fe, zin ws' b fe := by
  intro b hb
  rcases List.mem_cons.mp hb with rfl | hb
  · exact ⟨_, u.1⟩
  · obtain ⟨g, hg⟩ := h b hb
    exact ⟨g, u.2 _ _ hg⟩
theorem zl_upd {ws ws' : va_W} {q : Nat} {fe : va_E} {L : List Nat} (u : zupd ws q fe ws') (h : ∀ b ∈ L, ∃ fe, zin ws b fe) : ∀ b ∈ L, ∃ fe, zin ws' b fe := by
  intro b hb
  by_cases e : b = q
  · rw [e]
    exact ⟨_, u.1⟩
  · obtain ⟨g, hg⟩ := h b hb
    exact ⟨g, u.2 _ _ e hg⟩
theorem nd_new {ws : va_W} {q : Nat} {L : List Nat} (hne : ∀ (b : Nat) (f : va_E), zin ws b f → b ≠ q) (h : ∀ b ∈ L, ∃ fe, zin ws b fe) (hnd : L.Nodup) : (q :: L).Nodup := by
  refine List.nodup_cons.mpr ⟨fun hm => ?_, hnd⟩
  obtain ⟨g, hg⟩ := h q hm
  exact hne _ _ hg rfl
theorem nd_inj : ∀ {L : List Nat}, L.Nodup → ∀ i j, i < L.length → j < L.length → L.getD i 0 = L.getD j 0 → i = j
  | [], _, i, j, hi, _, _ => absurd hi (Nat.not_lt_zero _)
  | x :: L, h, i, j, hi, hj, hij => by
    have h1 := List.nodup_cons.mp h
    have gm : ∀ k, k < L.length → L.getD k 0 ∈ L := fun k hk => by
      rw [List.getD_eq_getElem?_getD, List.getElem?_eq_getElem hk]
      exact List.getElem_mem hk
    cases i with
    | zero =>
      cases j with
      | zero => rfl
      | succ j =>
        have hx : x = L.getD j 0 := hij
        exact absurd (hx ▸ gm j (by simpa using hj)) h1.1
    | succ i =>
      cases j with
      | zero =>
        have hx : L.getD i 0 = x := hij
        exact absurd (hx ▸ gm i (by simpa using hi)) h1.1
      | succ j => rw [nd_inj h1.2 i j (by simpa using hi) (by simpa using hj) hij]
theorem nd_rev {L : List Nat} (h : L.Nodup) : L.reverse.Nodup := List.pairwise_reverse.mpr (h.imp (fun h => h.symm))
def fT (i : Nat) : FF := fun j => if j = 10 then toldK i else fun _ => 0
def fL (i : Nat) : FF := fun j => if j = 10 then toldK 4 else if j = 11 then limK i else fun _ => 0
theorem fT_1 (i : Nat) : va_up (va_up (va_up (va_up (fT i) 10 (upd (fT i 10) (6 * i) 10)) 10 (upd (va_up (fT i) 10 (upd (fT i 10) (6 * i) 10) 10) (6 * i + 1) 5)) 10 (upd (va_up (va_up (fT i) 10 (upd (fT i 10) (6 * i) 10)) 10 (upd (va_up (fT i) 10 (upd (fT i 10) (6 * i) 10) 10) (6 * i + 1) 5) 10) (6 * i + 2) 1)) 10 (upd (va_up (va_up (va_up (fT i) 10 (upd (fT i 10) (6 * i) 10)) 10 (upd (va_up (fT i) 10 (upd (fT i 10) (6 * i) 10) 10) (6 * i + 1) 5)) 10 (upd (va_up (va_up (fT i) 10 (upd (fT i 10) (6 * i) 10)) 10 (upd (va_up (fT i) 10 (upd (fT i 10) (6 * i) 10) 10) (6 * i + 1) 5) 10) (6 * i + 2) 1) 10) (6 * i + 3) 60) = fT (i + 1) := by
  funext j
  by_cases e : j = 10
  · subst e
    simp only [va_up_self]
    rfl
  · simp only [va_up_ne _ _ e]
    unfold fT
    rw [if_neg e, if_neg e]
theorem fL_1 (i : Nat) : va_up (fL i) 11 (upd (fL i 11) i 8) = fL (i + 1) := by
  funext j
  by_cases e : j = 11
  · subst e
    rw [va_up_self]
    rfl
  · rw [va_up_ne _ _ e]
    unfold fL
    rw [if_neg e, if_neg e]
theorem fL_0 : fT 4 = fL 0 := by
  funext j
  unfold fT fL
  by_cases e : j = 10
  · rw [if_pos e, if_pos e]
  · rw [if_neg e, if_neg e]
    by_cases e2 : j = 11
    · rw [if_pos e2]
      rfl
    · rw [if_neg e2]
set_option maxHeartbeats 4000000 in
set_option maxRecDepth 100000 in
theorem c_M_init (l : Launch) {D : va_G} {ws : va_W} {H : Heap} {B : Nat} (hP : va_P D vwCl ws H) (hD : va_D (fun q => B ≤ q) ws) {kk : Nat → ClassId} (hB : B ≤ H.size) {a : Nat} (hz : zin ws a (.inr (4, [.int 0, .int 0, .int 0, .int 0, .null, .null, .null, .null, .null, .null, .null, .null, .null, .null, .null]))) : Met l y_M_init (Cond.code y_M_init b_M_init 2 none :: TT) ({ frames := 2, cells := 11, slots := 3632, locals := 80 }) (zPc [.ref a] H D vwCl (TY kk)) (zR D vwCl B none (fun ws' => (∃ ad : Nat → Nat, ad 0 = a ∧ PM kk ad 0 0 0 0 f0 (fun _ => 0) ws') ∧ zfrM ws ws')) 11 3632 (fun q => B ≤ q) := by
  refine z_bodyN (by decide) (Nat.le_of_ble_eq_true rfl) ?_
  intro p e s m below meth c ls C0 hin hH hKN hl
  obtain ⟨hx, hb, hr, hts, hown, hlocks, hml⟩ := C0
  subst hH
  have hK := hKN.1
  have hN := hKN.2
  have hS : va_S (fun q => B ≤ q) s.heap s.heap [] := va_S.rf
  have hA0 : ∀ q : Nat, s.heap.size ≤ q → (fun q => B ≤ q) q := fun q h => Nat.le_trans hB h
  obtain ⟨ws0, hws0⟩ : ∃ z, z = ws := ⟨_, rfl⟩
  rw [← hws0]
  have hF : zfrM ws0 ws := by rw [hws0]; exact zfrM_rf
  have hnd : ([a] : List Nat).Nodup := by simp
  have hall : ∀ b ∈ ([a] : List Nat), ∃ fe, zin ws b fe := fun b hb => by have e9 := List.mem_singleton.mp hb; rw [e9]; exact ⟨_, hz⟩
  have hl : lv_has ls 2 [(0, .ref a)] := hl
  refine lv_aload_n hx hb d_M_init_0 rfl (zl hl rfl) ?_
  refine W.objInit hx hb hown (hts _ tw_572) (hts _ tw_56) (hts _ tw_57) rfl (by rw [hml]; exact hl.1) rfl d_M_init_1 (Nat.le_of_ble_eq_true rfl) (Nat.le_of_ble_eq_true rfl) ?_
  refine W.eq (g2 := F0 m 4 ls []) rfl ?_
  refine lv_aload_n hx hb d_M_init_4 rfl (zl hl rfl) ?_
  refine lv_sipush (v := 400) hx hb d_M_init_5 (by decide) ?_
  refine z_newi hx hb hts tw_619 hK hP hD hS hA0 0 rfl 400 rfl (by decide) (Nat.le_of_ble_eq_true rfl) (Nat.le_of_ble_eq_true rfl) d_M_init_8 (fun q1 ws H hP hD hS u_1 hne hq => ?_)
  have hF : zfrM ws0 ws := fun b fe hk hz => u_1.2 _ _ (hF b fe hk hz)
  have hnd := nd_new hne hall hnd
  have hall := zl_new u_1 hall
  have z_2 := u_1.2 _ _ hz
  have hD0 := hD
  refine z_putF (C := R_M) (T := F_M) (N := 15) (v := .ref q1) hx hb hts inT_M ft_M ft_M_ok fn_M hown hK hP hD hS z_2 rfl 4 (by decide) tw_577 (fun _ h => h) rfl hin rfl rfl rfl (by simp) d_M_init_10 (fun ws H locs hP hD hS u_3 => ?_)
  have z_4 : zin ws a (.inr (4, [.int 0, .int 0, .int 0, .int 0, .ref q1, .null, .null, .null, .null, .null, .null, .null, .null, .null, .null])) := u_3.1
  have z_5 := u_3.2 _ _ (zin_ne hD0 u_1.1 z_2 (by intro h; cases h)) u_1.1
  have hF := zfrM_tr hF (zfrM_up hD0 z_2 rfl u_3)
  have hall := zl_upd u_3 hall
  refine lv_aload_n hx hb d_M_init_13 rfl (zl hl rfl) ?_
  refine lv_sipush (v := 400) hx hb d_M_init_14 (by decide) ?_
  refine z_newi hx hb hts tw_619 hK hP hD hS hA0 0 rfl 400 rfl (by decide) (Nat.le_of_ble_eq_true rfl) (Nat.le_of_ble_eq_true rfl) d_M_init_17 (fun q2 ws H hP hD hS u_6 hne hq => ?_)
  have hF : zfrM ws0 ws := fun b fe hk hz => u_6.2 _ _ (hF b fe hk hz)
  have hnd := nd_new hne hall hnd
  have hall := zl_new u_6 hall
  have z_7 := u_6.2 _ _ z_5
  have z_8 := u_6.2 _ _ z_4
  have hD0 := hD
  refine z_putF (C := R_M) (T := F_M) (N := 15) (v := .ref q2) hx hb hts inT_M ft_M ft_M_ok fn_M hown hK hP hD hS z_8 rfl 5 (by decide) tw_578 (fun _ h => h) rfl hin rfl rfl rfl (by simp) d_M_init_19 (fun ws H locs hP hD hS u_9 => ?_)
  have z_10 : zin ws a (.inr (4, [.int 0, .int 0, .int 0, .int 0, .ref q1, .ref q2, .null, .null, .null, .null, .null, .null, .null, .null, .null])) := u_9.1
  have z_11 := u_9.2 _ _ (zin_ne hD0 z_7 z_8 (by intro h; cases h)) z_7
  have z_12 := u_9.2 _ _ (zin_ne hD0 u_6.1 z_8 (by intro h; cases h)) u_6.1
  have hF := zfrM_tr hF (zfrM_up hD0 z_8 rfl u_9)
  have hall := zl_upd u_9 hall
  refine lv_aload_n hx hb d_M_init_22 rfl (zl hl rfl) ?_
  refine lv_sipush (v := 400) hx hb d_M_init_23 (by decide) ?_
  refine z_newi hx hb hts tw_619 hK hP hD hS hA0 0 rfl 400 rfl (by decide) (Nat.le_of_ble_eq_true rfl) (Nat.le_of_ble_eq_true rfl) d_M_init_26 (fun q3 ws H hP hD hS u_13 hne hq => ?_)
  have hF : zfrM ws0 ws := fun b fe hk hz => u_13.2 _ _ (hF b fe hk hz)
  have hnd := nd_new hne hall hnd
  have hall := zl_new u_13 hall
  have z_14 := u_13.2 _ _ z_11
  have z_15 := u_13.2 _ _ z_12
  have z_16 := u_13.2 _ _ z_10
  have hD0 := hD
  refine z_putF (C := R_M) (T := F_M) (N := 15) (v := .ref q3) hx hb hts inT_M ft_M ft_M_ok fn_M hown hK hP hD hS z_16 rfl 6 (by decide) tw_579 (fun _ h => h) rfl hin rfl rfl rfl (by simp) d_M_init_28 (fun ws H locs hP hD hS u_17 => ?_)
  have z_18 : zin ws a (.inr (4, [.int 0, .int 0, .int 0, .int 0, .ref q1, .ref q2, .ref q3, .null, .null, .null, .null, .null, .null, .null, .null])) := u_17.1
  have z_19 := u_17.2 _ _ (zin_ne hD0 z_14 z_16 (by intro h; cases h)) z_14
  have z_20 := u_17.2 _ _ (zin_ne hD0 z_15 z_16 (by intro h; cases h)) z_15
  have z_21 := u_17.2 _ _ (zin_ne hD0 u_13.1 z_16 (by intro h; cases h)) u_13.1
  have hF := zfrM_tr hF (zfrM_up hD0 z_16 rfl u_17)
  have hall := zl_upd u_17 hall
  refine lv_aload_n hx hb d_M_init_31 rfl (zl hl rfl) ?_
  refine lv_sipush (v := 400) hx hb d_M_init_32 (by decide) ?_
  refine z_newl hx hb hts tw_620 hK hP hD hS hA0 1 rfl 400 rfl (by decide) (Nat.le_of_ble_eq_true rfl) (Nat.le_of_ble_eq_true rfl) d_M_init_35 (fun q4 ws H hP hD hS u_22 hne hq => ?_)
  have hF : zfrM ws0 ws := fun b fe hk hz => u_22.2 _ _ (hF b fe hk hz)
  have hnd := nd_new hne hall hnd
  have hall := zl_new u_22 hall
  have z_23 := u_22.2 _ _ z_19
  have z_24 := u_22.2 _ _ z_20
  have z_25 := u_22.2 _ _ z_21
  have z_26 := u_22.2 _ _ z_18
  have hD0 := hD
  refine z_putF (C := R_M) (T := F_M) (N := 15) (v := .ref q4) hx hb hts inT_M ft_M ft_M_ok fn_M hown hK hP hD hS z_26 rfl 7 (by decide) tw_580 (fun _ h => h) rfl hin rfl rfl rfl (by simp) d_M_init_37 (fun ws H locs hP hD hS u_27 => ?_)
  have z_28 : zin ws a (.inr (4, [.int 0, .int 0, .int 0, .int 0, .ref q1, .ref q2, .ref q3, .ref q4, .null, .null, .null, .null, .null, .null, .null])) := u_27.1
  have z_29 := u_27.2 _ _ (zin_ne hD0 z_23 z_26 (by intro h; cases h)) z_23
  have z_30 := u_27.2 _ _ (zin_ne hD0 z_24 z_26 (by intro h; cases h)) z_24
  have z_31 := u_27.2 _ _ (zin_ne hD0 z_25 z_26 (by intro h; cases h)) z_25
  have z_32 := u_27.2 _ _ (zin_ne hD0 u_22.1 z_26 (by intro h; cases h)) u_22.1
  have hF := zfrM_tr hF (zfrM_up hD0 z_26 rfl u_27)
  have hall := zl_upd u_27 hall
  refine lv_aload_n hx hb d_M_init_40 rfl (zl hl rfl) ?_
  refine lv_sipush (v := 400) hx hb d_M_init_41 (by decide) ?_
  refine z_newi hx hb hts tw_619 hK hP hD hS hA0 0 rfl 400 rfl (by decide) (Nat.le_of_ble_eq_true rfl) (Nat.le_of_ble_eq_true rfl) d_M_init_44 (fun q5 ws H hP hD hS u_33 hne hq => ?_)
  have hF : zfrM ws0 ws := fun b fe hk hz => u_33.2 _ _ (hF b fe hk hz)
  have hnd := nd_new hne hall hnd
  have hall := zl_new u_33 hall
  have z_34 := u_33.2 _ _ z_29
  have z_35 := u_33.2 _ _ z_30
  have z_36 := u_33.2 _ _ z_31
  have z_37 := u_33.2 _ _ z_32
  have z_38 := u_33.2 _ _ z_28
  have hD0 := hD
  refine z_putF (C := R_M) (T := F_M) (N := 15) (v := .ref q5) hx hb hts inT_M ft_M ft_M_ok fn_M hown hK hP hD hS z_38 rfl 8 (by decide) tw_581 (fun _ h => h) rfl hin rfl rfl rfl (by simp) d_M_init_46 (fun ws H locs hP hD hS u_39 => ?_)
  have z_40 : zin ws a (.inr (4, [.int 0, .int 0, .int 0, .int 0, .ref q1, .ref q2, .ref q3, .ref q4, .ref q5, .null, .null, .null, .null, .null, .null])) := u_39.1
  have z_41 := u_39.2 _ _ (zin_ne hD0 z_34 z_38 (by intro h; cases h)) z_34
  have z_42 := u_39.2 _ _ (zin_ne hD0 z_35 z_38 (by intro h; cases h)) z_35
  have z_43 := u_39.2 _ _ (zin_ne hD0 z_36 z_38 (by intro h; cases h)) z_36
  have z_44 := u_39.2 _ _ (zin_ne hD0 z_37 z_38 (by intro h; cases h)) z_37
  have z_45 := u_39.2 _ _ (zin_ne hD0 u_33.1 z_38 (by intro h; cases h)) u_33.1
  have hF := zfrM_tr hF (zfrM_up hD0 z_38 rfl u_39)
  have hall := zl_upd u_39 hall
  refine lv_aload_n hx hb d_M_init_49 rfl (zl hl rfl) ?_
  refine lv_sipush (v := 400) hx hb d_M_init_50 (by decide) ?_
  refine z_newi hx hb hts tw_619 hK hP hD hS hA0 0 rfl 400 rfl (by decide) (Nat.le_of_ble_eq_true rfl) (Nat.le_of_ble_eq_true rfl) d_M_init_53 (fun q6 ws H hP hD hS u_46 hne hq => ?_)
  have hF : zfrM ws0 ws := fun b fe hk hz => u_46.2 _ _ (hF b fe hk hz)
  have hnd := nd_new hne hall hnd
  have hall := zl_new u_46 hall
  have z_47 := u_46.2 _ _ z_41
  have z_48 := u_46.2 _ _ z_42
  have z_49 := u_46.2 _ _ z_43
  have z_50 := u_46.2 _ _ z_44
  have z_51 := u_46.2 _ _ z_45
  have z_52 := u_46.2 _ _ z_40
  have hD0 := hD
  refine z_putF (C := R_M) (T := F_M) (N := 15) (v := .ref q6) hx hb hts inT_M ft_M ft_M_ok fn_M hown hK hP hD hS z_52 rfl 9 (by decide) tw_582 (fun _ h => h) rfl hin rfl rfl rfl (by simp) d_M_init_55 (fun ws H locs hP hD hS u_53 => ?_)
  have z_54 : zin ws a (.inr (4, [.int 0, .int 0, .int 0, .int 0, .ref q1, .ref q2, .ref q3, .ref q4, .ref q5, .ref q6, .null, .null, .null, .null, .null])) := u_53.1
  have z_55 := u_53.2 _ _ (zin_ne hD0 z_47 z_52 (by intro h; cases h)) z_47
  have z_56 := u_53.2 _ _ (zin_ne hD0 z_48 z_52 (by intro h; cases h)) z_48
  have z_57 := u_53.2 _ _ (zin_ne hD0 z_49 z_52 (by intro h; cases h)) z_49
  have z_58 := u_53.2 _ _ (zin_ne hD0 z_50 z_52 (by intro h; cases h)) z_50
  have z_59 := u_53.2 _ _ (zin_ne hD0 z_51 z_52 (by intro h; cases h)) z_51
  have z_60 := u_53.2 _ _ (zin_ne hD0 u_46.1 z_52 (by intro h; cases h)) u_46.1
  have hF := zfrM_tr hF (zfrM_up hD0 z_52 rfl u_53)
  have hall := zl_upd u_53 hall
  refine lv_aload_n hx hb d_M_init_58 rfl (zl hl rfl) ?_
  refine lv_sipush (v := 400) hx hb d_M_init_59 (by decide) ?_
  refine z_newi hx hb hts tw_619 hK hP hD hS hA0 0 rfl 400 rfl (by decide) (Nat.le_of_ble_eq_true rfl) (Nat.le_of_ble_eq_true rfl) d_M_init_62 (fun q7 ws H hP hD hS u_61 hne hq => ?_)
  have hF : zfrM ws0 ws := fun b fe hk hz => u_61.2 _ _ (hF b fe hk hz)
  have hnd := nd_new hne hall hnd
  have hall := zl_new u_61 hall
  have z_62 := u_61.2 _ _ z_55
  have z_63 := u_61.2 _ _ z_56
  have z_64 := u_61.2 _ _ z_57
  have z_65 := u_61.2 _ _ z_58
  have z_66 := u_61.2 _ _ z_59
  have z_67 := u_61.2 _ _ z_60
  have z_68 := u_61.2 _ _ z_54
  have hD0 := hD
  refine z_putF (C := R_M) (T := F_M) (N := 15) (v := .ref q7) hx hb hts inT_M ft_M ft_M_ok fn_M hown hK hP hD hS z_68 rfl 10 (by decide) tw_583 (fun _ h => h) rfl hin rfl rfl rfl (by simp) d_M_init_64 (fun ws H locs hP hD hS u_69 => ?_)
  have z_70 : zin ws a (.inr (4, [.int 0, .int 0, .int 0, .int 0, .ref q1, .ref q2, .ref q3, .ref q4, .ref q5, .ref q6, .ref q7, .null, .null, .null, .null])) := u_69.1
  have z_71 := u_69.2 _ _ (zin_ne hD0 z_62 z_68 (by intro h; cases h)) z_62
  have z_72 := u_69.2 _ _ (zin_ne hD0 z_63 z_68 (by intro h; cases h)) z_63
  have z_73 := u_69.2 _ _ (zin_ne hD0 z_64 z_68 (by intro h; cases h)) z_64
  have z_74 := u_69.2 _ _ (zin_ne hD0 z_65 z_68 (by intro h; cases h)) z_65
  have z_75 := u_69.2 _ _ (zin_ne hD0 z_66 z_68 (by intro h; cases h)) z_66
  have z_76 := u_69.2 _ _ (zin_ne hD0 z_67 z_68 (by intro h; cases h)) z_67
  have z_77 := u_69.2 _ _ (zin_ne hD0 u_61.1 z_68 (by intro h; cases h)) u_61.1
  have hF := zfrM_tr hF (zfrM_up hD0 z_68 rfl u_69)
  have hall := zl_upd u_69 hall
  refine lv_aload_n hx hb d_M_init_67 rfl (zl hl rfl) ?_
  refine lv_sipush (v := 400) hx hb d_M_init_68 (by decide) ?_
  refine z_newi hx hb hts tw_619 hK hP hD hS hA0 0 rfl 400 rfl (by decide) (Nat.le_of_ble_eq_true rfl) (Nat.le_of_ble_eq_true rfl) d_M_init_71 (fun q8 ws H hP hD hS u_78 hne hq => ?_)
  have hF : zfrM ws0 ws := fun b fe hk hz => u_78.2 _ _ (hF b fe hk hz)
  have hnd := nd_new hne hall hnd
  have hall := zl_new u_78 hall
  have z_79 := u_78.2 _ _ z_71
  have z_80 := u_78.2 _ _ z_72
  have z_81 := u_78.2 _ _ z_73
  have z_82 := u_78.2 _ _ z_74
  have z_83 := u_78.2 _ _ z_75
  have z_84 := u_78.2 _ _ z_76
  have z_85 := u_78.2 _ _ z_77
  have z_86 := u_78.2 _ _ z_70
  have hD0 := hD
  refine z_putF (C := R_M) (T := F_M) (N := 15) (v := .ref q8) hx hb hts inT_M ft_M ft_M_ok fn_M hown hK hP hD hS z_86 rfl 11 (by decide) tw_584 (fun _ h => h) rfl hin rfl rfl rfl (by simp) d_M_init_73 (fun ws H locs hP hD hS u_87 => ?_)
  have z_88 : zin ws a (.inr (4, [.int 0, .int 0, .int 0, .int 0, .ref q1, .ref q2, .ref q3, .ref q4, .ref q5, .ref q6, .ref q7, .ref q8, .null, .null, .null])) := u_87.1
  have z_89 := u_87.2 _ _ (zin_ne hD0 z_79 z_86 (by intro h; cases h)) z_79
  have z_90 := u_87.2 _ _ (zin_ne hD0 z_80 z_86 (by intro h; cases h)) z_80
  have z_91 := u_87.2 _ _ (zin_ne hD0 z_81 z_86 (by intro h; cases h)) z_81
  have z_92 := u_87.2 _ _ (zin_ne hD0 z_82 z_86 (by intro h; cases h)) z_82
  have z_93 := u_87.2 _ _ (zin_ne hD0 z_83 z_86 (by intro h; cases h)) z_83
  have z_94 := u_87.2 _ _ (zin_ne hD0 z_84 z_86 (by intro h; cases h)) z_84
  have z_95 := u_87.2 _ _ (zin_ne hD0 z_85 z_86 (by intro h; cases h)) z_85
  have z_96 := u_87.2 _ _ (zin_ne hD0 u_78.1 z_86 (by intro h; cases h)) u_78.1
  have hF := zfrM_tr hF (zfrM_up hD0 z_86 rfl u_87)
  have hall := zl_upd u_87 hall
  refine lv_aload_n hx hb d_M_init_76 rfl (zl hl rfl) ?_
  refine lv_sipush (v := 400) hx hb d_M_init_77 (by decide) ?_
  refine z_newi hx hb hts tw_619 hK hP hD hS hA0 0 rfl 400 rfl (by decide) (Nat.le_of_ble_eq_true rfl) (Nat.le_of_ble_eq_true rfl) d_M_init_80 (fun q9 ws H hP hD hS u_97 hne hq => ?_)
  have hF : zfrM ws0 ws := fun b fe hk hz => u_97.2 _ _ (hF b fe hk hz)
  have hnd := nd_new hne hall hnd
  have hall := zl_new u_97 hall
  have z_98 := u_97.2 _ _ z_89
  have z_99 := u_97.2 _ _ z_90
  have z_100 := u_97.2 _ _ z_91
  have z_101 := u_97.2 _ _ z_92
  have z_102 := u_97.2 _ _ z_93
  have z_103 := u_97.2 _ _ z_94
  have z_104 := u_97.2 _ _ z_95
  have z_105 := u_97.2 _ _ z_96
  have z_106 := u_97.2 _ _ z_88
  have hD0 := hD
  refine z_putF (C := R_M) (T := F_M) (N := 15) (v := .ref q9) hx hb hts inT_M ft_M ft_M_ok fn_M hown hK hP hD hS z_106 rfl 12 (by decide) tw_585 (fun _ h => h) rfl hin rfl rfl rfl (by simp) d_M_init_82 (fun ws H locs hP hD hS u_107 => ?_)
  have z_108 : zin ws a (.inr (4, [.int 0, .int 0, .int 0, .int 0, .ref q1, .ref q2, .ref q3, .ref q4, .ref q5, .ref q6, .ref q7, .ref q8, .ref q9, .null, .null])) := u_107.1
  have z_109 := u_107.2 _ _ (zin_ne hD0 z_98 z_106 (by intro h; cases h)) z_98
  have z_110 := u_107.2 _ _ (zin_ne hD0 z_99 z_106 (by intro h; cases h)) z_99
  have z_111 := u_107.2 _ _ (zin_ne hD0 z_100 z_106 (by intro h; cases h)) z_100
  have z_112 := u_107.2 _ _ (zin_ne hD0 z_101 z_106 (by intro h; cases h)) z_101
  have z_113 := u_107.2 _ _ (zin_ne hD0 z_102 z_106 (by intro h; cases h)) z_102
  have z_114 := u_107.2 _ _ (zin_ne hD0 z_103 z_106 (by intro h; cases h)) z_103
  have z_115 := u_107.2 _ _ (zin_ne hD0 z_104 z_106 (by intro h; cases h)) z_104
  have z_116 := u_107.2 _ _ (zin_ne hD0 z_105 z_106 (by intro h; cases h)) z_105
  have z_117 := u_107.2 _ _ (zin_ne hD0 u_97.1 z_106 (by intro h; cases h)) u_97.1
  have hF := zfrM_tr hF (zfrM_up hD0 z_106 rfl u_107)
  have hall := zl_upd u_107 hall
  refine lv_aload_n hx hb d_M_init_85 rfl (zl hl rfl) ?_
  refine lv_bipush (v := 24) hx hb d_M_init_86 (by decide) ?_
  refine z_newi hx hb hts tw_619 hK hP hD hS hA0 0 rfl 24 rfl (by decide) (Nat.le_of_ble_eq_true rfl) (Nat.le_of_ble_eq_true rfl) d_M_init_88 (fun q10 ws H hP hD hS u_118 hne hq => ?_)
  have hF : zfrM ws0 ws := fun b fe hk hz => u_118.2 _ _ (hF b fe hk hz)
  have hnd := nd_new hne hall hnd
  have hall := zl_new u_118 hall
  have z_119 := u_118.2 _ _ z_109
  have z_120 := u_118.2 _ _ z_110
  have z_121 := u_118.2 _ _ z_111
  have z_122 := u_118.2 _ _ z_112
  have z_123 := u_118.2 _ _ z_113
  have z_124 := u_118.2 _ _ z_114
  have z_125 := u_118.2 _ _ z_115
  have z_126 := u_118.2 _ _ z_116
  have z_127 := u_118.2 _ _ z_117
  have z_128 := u_118.2 _ _ z_108
  have hD0 := hD
  refine z_putF (C := R_M) (T := F_M) (N := 15) (v := .ref q10) hx hb hts inT_M ft_M ft_M_ok fn_M hown hK hP hD hS z_128 rfl 13 (by decide) tw_586 (fun _ h => h) rfl hin rfl rfl rfl (by simp) d_M_init_90 (fun ws H locs hP hD hS u_129 => ?_)
  have z_130 : zin ws a (.inr (4, [.int 0, .int 0, .int 0, .int 0, .ref q1, .ref q2, .ref q3, .ref q4, .ref q5, .ref q6, .ref q7, .ref q8, .ref q9, .ref q10, .null])) := u_129.1
  have z_131 := u_129.2 _ _ (zin_ne hD0 z_119 z_128 (by intro h; cases h)) z_119
  have z_132 := u_129.2 _ _ (zin_ne hD0 z_120 z_128 (by intro h; cases h)) z_120
  have z_133 := u_129.2 _ _ (zin_ne hD0 z_121 z_128 (by intro h; cases h)) z_121
  have z_134 := u_129.2 _ _ (zin_ne hD0 z_122 z_128 (by intro h; cases h)) z_122
  have z_135 := u_129.2 _ _ (zin_ne hD0 z_123 z_128 (by intro h; cases h)) z_123
  have z_136 := u_129.2 _ _ (zin_ne hD0 z_124 z_128 (by intro h; cases h)) z_124
  have z_137 := u_129.2 _ _ (zin_ne hD0 z_125 z_128 (by intro h; cases h)) z_125
  have z_138 := u_129.2 _ _ (zin_ne hD0 z_126 z_128 (by intro h; cases h)) z_126
  have z_139 := u_129.2 _ _ (zin_ne hD0 z_127 z_128 (by intro h; cases h)) z_127
  have z_140 := u_129.2 _ _ (zin_ne hD0 u_118.1 z_128 (by intro h; cases h)) u_118.1
  have hF := zfrM_tr hF (zfrM_up hD0 z_128 rfl u_129)
  have hall := zl_upd u_129 hall
  refine lv_aload_n hx hb d_M_init_93 rfl (zl hl rfl) ?_
  refine lv_bipush (v := 8) hx hb d_M_init_94 (by decide) ?_
  refine z_newi hx hb hts tw_619 hK hP hD hS hA0 0 rfl 8 rfl (by decide) (Nat.le_of_ble_eq_true rfl) (Nat.le_of_ble_eq_true rfl) d_M_init_96 (fun q11 ws H hP hD hS u_141 hne hq => ?_)
  have hF : zfrM ws0 ws := fun b fe hk hz => u_141.2 _ _ (hF b fe hk hz)
  have hnd := nd_new hne hall hnd
  have hall := zl_new u_141 hall
  have z_142 := u_141.2 _ _ z_131
  have z_143 := u_141.2 _ _ z_132
  have z_144 := u_141.2 _ _ z_133
  have z_145 := u_141.2 _ _ z_134
  have z_146 := u_141.2 _ _ z_135
  have z_147 := u_141.2 _ _ z_136
  have z_148 := u_141.2 _ _ z_137
  have z_149 := u_141.2 _ _ z_138
  have z_150 := u_141.2 _ _ z_139
  have z_151 := u_141.2 _ _ z_140
  have z_152 := u_141.2 _ _ z_130
  have hD0 := hD
  refine z_putF (C := R_M) (T := F_M) (N := 15) (v := .ref q11) hx hb hts inT_M ft_M ft_M_ok fn_M hown hK hP hD hS z_152 rfl 14 (by decide) tw_587 (fun _ h => h) rfl hin rfl rfl rfl (by simp) d_M_init_98 (fun ws H locs hP hD hS u_153 => ?_)
  have z_154 : zin ws a (.inr (4, [.int 0, .int 0, .int 0, .int 0, .ref q1, .ref q2, .ref q3, .ref q4, .ref q5, .ref q6, .ref q7, .ref q8, .ref q9, .ref q10, .ref q11])) := u_153.1
  have z_155 := u_153.2 _ _ (zin_ne hD0 z_142 z_152 (by intro h; cases h)) z_142
  have z_156 := u_153.2 _ _ (zin_ne hD0 z_143 z_152 (by intro h; cases h)) z_143
  have z_157 := u_153.2 _ _ (zin_ne hD0 z_144 z_152 (by intro h; cases h)) z_144
  have z_158 := u_153.2 _ _ (zin_ne hD0 z_145 z_152 (by intro h; cases h)) z_145
  have z_159 := u_153.2 _ _ (zin_ne hD0 z_146 z_152 (by intro h; cases h)) z_146
  have z_160 := u_153.2 _ _ (zin_ne hD0 z_147 z_152 (by intro h; cases h)) z_147
  have z_161 := u_153.2 _ _ (zin_ne hD0 z_148 z_152 (by intro h; cases h)) z_148
  have z_162 := u_153.2 _ _ (zin_ne hD0 z_149 z_152 (by intro h; cases h)) z_149
  have z_163 := u_153.2 _ _ (zin_ne hD0 z_150 z_152 (by intro h; cases h)) z_150
  have z_164 := u_153.2 _ _ (zin_ne hD0 z_151 z_152 (by intro h; cases h)) z_151
  have z_165 := u_153.2 _ _ (zin_ne hD0 u_141.1 z_152 (by intro h; cases h)) u_141.1
  have hF := zfrM_tr hF (zfrM_up hD0 z_152 rfl u_153)
  have hall := zl_upd u_153 hall
  refine lv_iconst (v := 0) hx hb d_M_init_101 (by decide) ?_
  refine lv_istore_n (lv' := [(1, .int 0), (0, .ref a)]) hx hb d_M_init_102 rfl hl (by decide) rfl (fun ls hl => ?_)
  obtain ⟨ad, had, hM⟩ : ∃ ad : Nat → Nat, ad 0 = a ∧ PM kk ad 0 0 0 0 (fT 0) (fun _ => 0) ws := by
    refine ⟨fun j => [a, q1, q2, q3, q4, q5, q6, q7, q8, q9, q10, q11].getD j 0, rfl, z_154, fun j h1 h2 h4 => ?_, z_158, fun i j hi hj hij => nd_inj (L := [a, q1, q2, q3, q4, q5, q6, q7, q8, q9, q10, q11]) (nd_rev hnd) i j hi hj hij⟩
    rcases (show j = 1 ∨ j = 2 ∨ j = 3 ∨ j = 5 ∨ j = 6 ∨ j = 7 ∨ j = 8 ∨ j = 9 ∨ j = 10 ∨ j = 11 by omega) with rfl | rfl | rfl | rfl | rfl | rfl | rfl | rfl | rfl | rfl
    · exact z_155
    · exact z_156
    · exact z_157
    · exact z_159
    · exact z_160
    · exact z_161
    · exact z_162
    · exact z_163
    · exact z_164
    · exact z_165
  subst had
  have key2 : ∀ (r i : Nat) (ws : va_W) (H : Heap) (ls : Array Slot) (locs : List Loc), i ≤ 8 → 9 ≤ i + r → PM kk ad 0 0 0 0 (fL i) (fun _ => 0) ws → zfrM ws0 ws → va_P D vwCl ws H → va_D (fun q => B ≤ q) ws → va_S (fun q => B ≤ q) s.heap H locs → lv_has ls 2 [(0, .ref (ad 0)), (1, .int (nI i))] → W p l e ({ frames := 2, cells := 11, slots := 3632, locals := 80 }) s m ([.ref (ad 0)] : List Value).toArray below meth c H locs 11 3632 (MQ below (zR D vwCl B none (fun ws' => (∃ ad_1 : Nat → Nat, ad_1 0 = ad 0 ∧ PM kk ad_1 0 0 0 0 f0 (fun _ => 0) ws') ∧ zfrM ws0 ws')) ([.ref (ad 0)] : List Value).toArray s 11 3632 (fun q => B ≤ q)) (F0 m 164 ls []) := by
    intro r
    induction r with
    | zero => intro i ws H ls locs h1 h2; omega
    | succ r ih =>
      intro i ws H ls locs hi hir hM hF hP hD hS hl
      refine lv_iload_n hx hb d_M_init_164 rfl (zl hl rfl) ?_
      refine lv_bipush (v := 8) hx hb d_M_init_165 (by decide) ?_
      refine lv_icmp_ge (tgt := 184) hx hb d_M_init_167 (by decide) (fun c_1 => ?_) (fun c_1 => ?_)
      · have hin9 := z_ge hi (by decide) c_1
        subst hin9
        exact z_vretR hx hb hr hlocks hP hD hS ⟨⟨ad, rfl, hM⟩, hF⟩ d_M_init_184
      · have hlt := z_lt hi (by decide) c_1
        refine lv_aload_n hx hb d_M_init_170 rfl (zl hl rfl) ?_
        refine z_get (C := R_M) (T := F_M) (N := 15) (v := .ref (ad 11)) hx hb hts inT_M hown hK hP (PM_o hM) rfl 14 (by decide) tw_587 (fun _ h => h) rfl d_M_init_171 ?_
        refine lv_iload_n hx hb d_M_init_174 rfl (zl hl rfl) ?_
        refine lv_bipush (v := 8) hx hb d_M_init_175 (by decide) ?_
        have hD0 := hD
        refine z_iast hx hb hK hP hD hS 0 (PM_11 hM) rfl i rfl (by omega) (by decide) d_M_init_177 (fun ws H locs hP hD hS u_2 => ?_)
        have hF := zfrM_tr hF (zfrM_up hD0 (PM_11 hM) rfl u_2)
        have hM := PM_wa hM 11 (by decide) (by decide) (by decide) rfl u_2
        refine lv_iinc (v := (nI (i + 1))) (lv' := [(1, .int (nI (i + 1))), (0, .ref (ad 0))]) hx hb d_M_init_178 hl (k := 1) rfl (nI_1 i) (by decide) rfl (fun ls hl => ?_)
        refine lv_goto (tgt := 164) hx hb d_M_init_181 (by decide) ?_
        rw [fL_1] at hM
        exact ih (i + 1) ws H ls locs (by omega) (by omega) hM hF hP hD hS (lv_sub hl [1, 0] rfl)
  have key1 : ∀ (r i : Nat) (ws : va_W) (H : Heap) (ls : Array Slot) (locs : List Loc), i ≤ 4 → 5 ≤ i + r → PM kk ad 0 0 0 0 (fT i) (fun _ => 0) ws → zfrM ws0 ws → va_P D vwCl ws H → va_D (fun q => B ≤ q) ws → va_S (fun q => B ≤ q) s.heap H locs → lv_has ls 2 [(0, .ref (ad 0)), (1, .int (nI i))] → W p l e ({ frames := 2, cells := 11, slots := 3632, locals := 80 }) s m ([.ref (ad 0)] : List Value).toArray below meth c H locs 11 3632 (MQ below (zR D vwCl B none (fun ws' => (∃ ad_1 : Nat → Nat, ad_1 0 = ad 0 ∧ PM kk ad_1 0 0 0 0 f0 (fun _ => 0) ws') ∧ zfrM ws0 ws')) ([.ref (ad 0)] : List Value).toArray s 11 3632 (fun q => B ≤ q)) (F0 m 103 ls []) := by
    intro r
    induction r with
    | zero => intro i ws H ls locs h1 h2; omega
    | succ r ih =>
      intro i ws H ls locs hi hir hM hF hP hD hS hl
      refine lv_iload_n hx hb d_M_init_103 rfl (zl hl rfl) ?_
      refine lv_iconst (v := 4) hx hb d_M_init_104 (by decide) ?_
      refine lv_icmp_ge (tgt := 162) hx hb d_M_init_105 (by decide) (fun c_1 => ?_) (fun c_1 => ?_)
      · have hin9 := z_ge hi (by decide) c_1
        refine lv_iconst (v := 0) hx hb d_M_init_162 (by decide) ?_
        refine lv_istore_n (lv' := [(1, .int 0), (0, .ref (ad 0))]) hx hb d_M_init_163 rfl hl (by decide) rfl (fun ls hl => ?_)
        have e4 : i = 4 := hin9
        rw [e4, fL_0] at hM
        exact key2 9 0 ws H ls locs (by decide) (by decide) hM hF hP hD hS (lv_sub hl [1, 0] rfl)
      · have hlt := z_lt hi (by decide) c_1
        refine lv_aload_n hx hb d_M_init_108 rfl (zl hl rfl) ?_
        refine z_get (C := R_M) (T := F_M) (N := 15) (v := .ref (ad 10)) hx hb hts inT_M hown hK hP (PM_o hM) rfl 13 (by decide) tw_586 (fun _ h => h) rfl d_M_init_109 ?_
        refine lv_bipush (v := 6) hx hb d_M_init_112 (by decide) ?_
        refine lv_iload_n hx hb d_M_init_114 rfl (zl hl rfl) ?_
        refine lv_imul hx hb d_M_init_115 ?_
        refine lv_bipush (v := 10) hx hb d_M_init_116 (by decide) ?_
        have hD0 := hD
        refine z_iast hx hb hK hP hD hS 0 (PM_10 hM) rfl (6 * i) (z_idx0 i) (by omega) (by decide) d_M_init_118 (fun ws H locs hP hD hS u_2 => ?_)
        have hF := zfrM_tr hF (zfrM_up hD0 (PM_10 hM) rfl u_2)
        have hM := PM_wa hM 10 (by decide) (by decide) (by decide) rfl u_2
        refine lv_aload_n hx hb d_M_init_119 rfl (zl hl rfl) ?_
        refine z_get (C := R_M) (T := F_M) (N := 15) (v := .ref (ad 10)) hx hb hts inT_M hown hK hP (PM_o hM) rfl 13 (by decide) tw_586 (fun _ h => h) rfl d_M_init_120 ?_
        refine lv_bipush (v := 6) hx hb d_M_init_123 (by decide) ?_
        refine lv_iload_n hx hb d_M_init_125 rfl (zl hl rfl) ?_
        refine lv_imul hx hb d_M_init_126 ?_
        refine lv_iconst (v := 1) hx hb d_M_init_127 (by decide) ?_
        refine lv_iadd hx hb d_M_init_128 ?_
        refine lv_iconst (v := 5) hx hb d_M_init_129 (by decide) ?_
        have hD0 := hD
        refine z_iast hx hb hK hP hD hS 0 (PM_10 hM) rfl (6 * i + 1) (z_idx i 1) (by omega) (by decide) d_M_init_130 (fun ws H locs hP hD hS u_3 => ?_)
        have hF := zfrM_tr hF (zfrM_up hD0 (PM_10 hM) rfl u_3)
        have hM := PM_wa hM 10 (by decide) (by decide) (by decide) rfl u_3
        refine lv_aload_n hx hb d_M_init_131 rfl (zl hl rfl) ?_
        refine z_get (C := R_M) (T := F_M) (N := 15) (v := .ref (ad 10)) hx hb hts inT_M hown hK hP (PM_o hM) rfl 13 (by decide) tw_586 (fun _ h => h) rfl d_M_init_132 ?_
        refine lv_bipush (v := 6) hx hb d_M_init_135 (by decide) ?_
        refine lv_iload_n hx hb d_M_init_137 rfl (zl hl rfl) ?_
        refine lv_imul hx hb d_M_init_138 ?_
        refine lv_iconst (v := 2) hx hb d_M_init_139 (by decide) ?_
        refine lv_iadd hx hb d_M_init_140 ?_
        refine lv_iconst (v := 1) hx hb d_M_init_141 (by decide) ?_
        have hD0 := hD
        refine z_iast hx hb hK hP hD hS 0 (PM_10 hM) rfl (6 * i + 2) (z_idx i 2) (by omega) (by decide) d_M_init_142 (fun ws H locs hP hD hS u_4 => ?_)
        have hF := zfrM_tr hF (zfrM_up hD0 (PM_10 hM) rfl u_4)
        have hM := PM_wa hM 10 (by decide) (by decide) (by decide) rfl u_4
        refine lv_aload_n hx hb d_M_init_143 rfl (zl hl rfl) ?_
        refine z_get (C := R_M) (T := F_M) (N := 15) (v := .ref (ad 10)) hx hb hts inT_M hown hK hP (PM_o hM) rfl 13 (by decide) tw_586 (fun _ h => h) rfl d_M_init_144 ?_
        refine lv_bipush (v := 6) hx hb d_M_init_147 (by decide) ?_
        refine lv_iload_n hx hb d_M_init_149 rfl (zl hl rfl) ?_
        refine lv_imul hx hb d_M_init_150 ?_
        refine lv_iconst (v := 3) hx hb d_M_init_151 (by decide) ?_
        refine lv_iadd hx hb d_M_init_152 ?_
        refine lv_bipush (v := 60) hx hb d_M_init_153 (by decide) ?_
        have hD0 := hD
        refine z_iast hx hb hK hP hD hS 0 (PM_10 hM) rfl (6 * i + 3) (z_idx i 3) (by omega) (by decide) d_M_init_155 (fun ws H locs hP hD hS u_5 => ?_)
        have hF := zfrM_tr hF (zfrM_up hD0 (PM_10 hM) rfl u_5)
        have hM := PM_wa hM 10 (by decide) (by decide) (by decide) rfl u_5
        refine lv_iinc (v := (nI (i + 1))) (lv' := [(1, .int (nI (i + 1))), (0, .ref (ad 0))]) hx hb d_M_init_156 hl (k := 1) rfl (nI_1 i) (by decide) rfl (fun ls hl => ?_)
        refine lv_goto (tgt := 103) hx hb d_M_init_159 (by decide) ?_
        rw [fT_1] at hM
        exact ih (i + 1) ws H ls locs (by omega) (by omega) hM hF hP hD hS (lv_sub hl [1, 0] rfl)
  exact key1 5 0 ws H ls locs (by decide) (by decide) hM hF hP hD hS (lv_sub hl [1, 0] rfl)

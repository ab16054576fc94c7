theorem zneg1 {tm : Nat} (h : tm < 2 ^ 29) : ¬ nI tm < -1 := fun z => absurd (Int32.lt_trans z (by decide : (-1 : Int32) < 0)) (nI_pos (by omega))
theorem Inv_addC {k tm n : Nat} {f : FF} {ky : Nat → Int64} {q r g delay : Int32} {kv : Int64} (h : Inv k tm n f) (hn : n ≤ 400) : Inv (k + 1) tm (if cNew f ky (nI tm) n q r g kv delay = true then n + 1 else n) (if cNew f ky (nI tm) n q r g kv delay = true then mAdd f n q r g (nI tm) delay else f) := by
  by_cases hc : cNew f ky (nI tm) n q r g kv delay = true
  · rw [if_pos hc, if_pos hc]
    refine Inv_add h hn q r g delay ?_
    unfold cNew at hc
    simp only [Bool.and_eq_true, Bool.not_eq_true'] at hc
    exact hc.2
  · rw [if_neg hc, if_neg hc]
    exact Inv_step h
set_option maxHeartbeats 16000000 in
set_option maxRecDepth 100000 in
theorem law_loop (l : Launch) (hl0 : l.stackTraces = false) {p : Program} {e : Env} {s : State} {m : MethodId} {below : List Frame} {meth : Method} {c : Code} {b L : Nat} {xs : Nat → Int32} (hL : L ≤ 3584) (C0 : lw_At p s m meth c b L xs) {D : va_G} {kk : Nat → ClassId} {e0 mi : Nat} (hKN : ZK D vwCl (TY kk) s) (hZB : zB e0 mi s.heap.size s s.heap) {xa qad gad ad : Nat → Nat} {qar gar : Nat → Option Nat} {oa : Nat} :
    ∀ (r k tm n : Nat) (tok : Int32) (f : FF) (ky : Nat → Int64) (ws : va_W) (H : Heap) (ls : Array Slot) (locs : List Loc), k ≤ 512 → 513 ≤ k + r → XS kk xa qad gad e0 qar gar (nI tm) tok n f ky ws → (∃ thr, PM kk ad thr (nI tm) n tok f ky ws) → (∃ go, zin ws oa (.inl (kk 1, 1, .inr (.inl go)))) → Inv k tm n f → va_P D vwCl ws H → va_D (fun q => s.heap.size ≤ q) ws → va_S (fun q => s.heap.size ≤ q) s.heap H locs → lv_has ls 7 [(0, .ref b), (1, .ref (xa 0)), (2, .ref (ad 0)), (3, .ref oa), (4, .int (nI (7 * k)))] →
      W p l e room_1 s m #[Value.ref b] below meth c H locs (29 + 2 * k) (3708 + 612 * k) (lw_Z below #[Value.ref b] s) (F0 m 23 ls []) := by
  obtain ⟨hx, hb, hr, hml, hown, hts0, hXs, hbl, hlocks, hgv⟩ := C0
  have hts : ∀ w ∈ TT, w.before #[Value.ref b] s = true := fun w h => hts0 w (List.mem_filter.mp h).1
  have hK := hKN.1
  have hN := hKN.2
  have hbA : ¬ (fun q => s.heap.size ≤ q) b := Nat.not_le.mpr hbl
  intro r
  induction r with
  | zero =>
    intro k tm n tok f ky ws H ls locs h1 h2
    exact absurd h2 (by omega)
  | succ r ih =>
    intro k tm n tok f ky ws H ls locs hk hkr hX2 hM2 ho2 hI hP hD hS hl
    obtain ⟨tad, arr, ea, cap, md, h, hX⟩ := hX2
    obtain ⟨thr, hM⟩ := hM2
    obtain ⟨go, ho⟩ := ho2
    have hn := PX_n hX
    have hq := PX_okq hX
    have hg := PX_okg hX
    have hA := Inv_okA hI hk hq
    have htm : tm < 2 ^ 29 := by have := hI.2.2.2.2.2; omega
    have hBB : s.heap.size ≤ H.size := hS.1
    obtain ⟨a1, ha1⟩ : ∃ z, xs (7 * k + 1) = z := ⟨_, rfl⟩
    obtain ⟨a2, ha2⟩ : ∃ z, xs (7 * k + 2) = z := ⟨_, rfl⟩
    obtain ⟨a3, ha3⟩ : ∃ z, xs (7 * k + 3) = z := ⟨_, rfl⟩
    obtain ⟨a4, ha4⟩ : ∃ z, xs (7 * k + 4) = z := ⟨_, rfl⟩
    obtain ⟨a5, ha5⟩ : ∃ z, xs (7 * k + 5) = z := ⟨_, rfl⟩
    obtain ⟨a6, ha6⟩ : ∃ z, xs (7 * k + 6) = z := ⟨_, rfl⟩
    obtain ⟨a0, ha0⟩ : ∃ z, xs (7 * k) = z := ⟨_, rfl⟩
    refine lv_iload hx hb d_L_law_23 (zl hl rfl) ?_
    refine lv_aload_n hx hb d_L_law_25 rfl (zl hl rfl) ?_
    refine va_slen hx hb hXs hbl hbA hS d_L_law_26 ?_
    refine lv_bipush (v := 7) hx hb d_L_law_27 (by decide) ?_
    refine lv_isub hx hb d_L_law_29 ?_
    refine z_top (y := nI L - 7) (rfl) ?_
    refine lv_icmp_gt (tgt := 695) hx hb d_L_law_30 (by decide) (fun c_1 => ?_) (fun c_1 => ?_)
    · refine lv_iconst (v := 1) hx hb d_L_law_695 (by decide) ?_
      refine va_forget (fun q hq => hS.2.2 q hq) ?_
      refine W.widen (k := 601024) (n := 7293034) (by omega) (by omega) ?_
      exact lw_ret hx hb hr hlocks d_L_law_696
    · have hlt : 7 * k + 7 ≤ L := by
        rcases Nat.lt_or_ge L (7 * k + 7) with q | q
        · exact absurd ((zlim hk hL).mpr q) c_1
        · exact q
      refine lv_aload_n hx hb d_L_law_33 rfl (zl hl rfl) ?_
      refine lv_iload hx hb d_L_law_34 (zl hl rfl) ?_
      refine z_sld hx hb hXs hbl hbA hS (7 * k) rfl (by omega) (by omega) ha0 d_L_law_36 ?_
      refine lv_bipush (v := 15) hx hb d_L_law_37 (by decide) ?_
      refine lv_iand hx hb d_L_law_39 ?_
      obtain ⟨z, hz⟩ : ∃ z, z = a0 &&& 15 := ⟨_, rfl⟩
      rw [← hz]
      rcases z_sw z 11 (by decide) with d_2 | ⟨k9, hk9, hkk⟩
      · have n_3 : ¬ z = 0 := fun h => absurd (h ▸ d_2) (by decide)
        have n_4 : ¬ z = 1 := fun h => absurd (h ▸ d_2) (by decide)
        have n_5 : ¬ z = 2 := fun h => absurd (h ▸ d_2) (by decide)
        have n_6 : ¬ z = 3 := fun h => absurd (h ▸ d_2) (by decide)
        have n_7 : ¬ z = 4 := fun h => absurd (h ▸ d_2) (by decide)
        have n_8 : ¬ z = 5 := fun h => absurd (h ▸ d_2) (by decide)
        have n_9 : ¬ z = 6 := fun h => absurd (h ▸ d_2) (by decide)
        have n_10 : ¬ z = 7 := fun h => absurd (h ▸ d_2) (by decide)
        have n_11 : ¬ z = 8 := fun h => absurd (h ▸ d_2) (by decide)
        have n_12 : ¬ z = 9 := fun h => absurd (h ▸ d_2) (by decide)
        have n_13 : ¬ z = 10 := fun h => absurd (h ▸ d_2) (by decide)
        have n_14 : ¬ z = 11 := fun h => absurd (h ▸ d_2) (by decide)
        refine lv_tableOut (tgt := 689) hx hb d_L_law_40 d_2 (by decide) ?_
        refine lv_iinc (v := (nI (7 * (k + 1)))) (lv' := [(4, .int (nI (7 * (k + 1)))), (0, .ref b), (1, .ref (xa 0)), (2, .ref (ad 0)), (3, .ref oa)]) hx hb d_L_law_689 hl (k := 4) rfl (nI_add (7 * k) 7) (by decide) rfl (fun ls hl => ?_)
        refine lv_goto (tgt := 23) hx hb d_L_law_692 (by decide) ?_
        refine W.widen (k := 29 + 2 * (k + 1)) (n := 3708 + 612 * (k + 1)) (by omega) (by omega) ?_
        have hX2 : XS kk xa qad gad e0 qar gar (nI tm) tok n f ky ws := ⟨tad, arr, ea, cap, md, h, hX⟩
        exact ih (k + 1) tm n tok f ky ws H ls locs (by omega) (by omega) hX2 ⟨_, hM⟩ ⟨_, ho⟩ (Inv_step hI) hP hD hS (lv_sub hl [1, 2, 3, 4, 0] rfl)
      · obtain rfl | rfl | rfl | rfl | rfl | rfl | rfl | rfl | rfl | rfl | rfl | rfl : k9 = 0 ∨ k9 = 1 ∨ k9 = 2 ∨ k9 = 3 ∨ k9 = 4 ∨ k9 = 5 ∨ k9 = 6 ∨ k9 = 7 ∨ k9 = 8 ∨ k9 = 9 ∨ k9 = 10 ∨ k9 = 11 := by omega
        · have e9 : z = 0 := hkk
          clear hkk
          subst e9
          refine lv_tableIn (tgt := 104) hx hb d_L_law_40 (by decide) (by decide) rfl (by decide) ?_
          refine lv_aload_n hx hb d_L_law_104 rfl (zl hl rfl) ?_
          refine lv_aload_n hx hb d_L_law_105 rfl (zl hl rfl) ?_
          refine lv_iload hx hb d_L_law_106 (zl hl rfl) ?_
          refine lv_iconst (v := 1) hx hb d_L_law_108 (by decide) ?_
          refine lv_iadd hx hb d_L_law_109 ?_
          refine z_sld hx hb hXs hbl hbA hS (7 * k + 1) (nI_add (7 * k) 1) (by omega) (by omega) ha1 d_L_law_110 ?_
          refine lv_aload_n hx hb d_L_law_111 rfl (zl hl rfl) ?_
          refine lv_iload hx hb d_L_law_112 (zl hl rfl) ?_
          refine lv_iconst (v := 2) hx hb d_L_law_114 (by decide) ?_
          refine lv_iadd hx hb d_L_law_115 ?_
          refine z_sld hx hb hXs hbl hbA hS (7 * k + 2) (nI_add (7 * k) 2) (by omega) (by omega) ha2 d_L_law_116 ?_
          refine lv_aload_n hx hb d_L_law_117 rfl (zl hl rfl) ?_
          refine lv_iload hx hb d_L_law_118 (zl hl rfl) ?_
          refine lv_iconst (v := 3) hx hb d_L_law_120 (by decide) ?_
          refine lv_iadd hx hb d_L_law_121 ?_
          refine z_sld hx hb hXs hbl hbA hS (7 * k + 3) (nI_add (7 * k) 3) (by omega) (by omega) ha3 d_L_law_122 ?_
          refine lv_aload_n hx hb d_L_law_123 rfl (zl hl rfl) ?_
          refine lv_iload hx hb d_L_law_124 (zl hl rfl) ?_
          refine lv_iconst (v := 4) hx hb d_L_law_126 (by decide) ?_
          refine lv_iadd hx hb d_L_law_127 ?_
          refine z_sld hx hb hXs hbl hbA hS (7 * k + 4) (nI_add (7 * k) 4) (by omega) (by omega) ha4 d_L_law_128 ?_
          refine lv_i2l (v := a4.toInt64) hx hb d_L_law_129 rfl ?_
          refine lv_bipush (v := 32) hx hb d_L_law_130 (by decide) ?_
          refine lv_lshl hx hb d_L_law_132 rfl ?_
          refine lv_aload_n hx hb d_L_law_133 rfl (zl hl rfl) ?_
          refine lv_iload hx hb d_L_law_134 (zl hl rfl) ?_
          refine lv_iconst (v := 5) hx hb d_L_law_136 (by decide) ?_
          refine lv_iadd hx hb d_L_law_137 ?_
          refine z_sld hx hb hXs hbl hbA hS (7 * k + 5) (nI_add (7 * k) 5) (by omega) (by omega) ha5 d_L_law_138 ?_
          refine lv_i2l (v := a5.toInt64) hx hb d_L_law_139 rfl ?_
          refine lv_ldc2 (v := 4294967295) hx hb hown (hts _ tw_738) d_L_law_140 ?_
          refine lv_land hx hb d_L_law_143 ?_
          refine lv_lor hx hb d_L_law_144 ?_
          refine W.eq (g2 := F0 m 145 ls [.long (kvS a4 a5), .int a3, .int a2, .int a1, .ref (xa 0)]) rfl ?_
          refine lv_aload_n hx hb d_L_law_145 rfl (zl hl rfl) ?_
          refine lv_iload hx hb d_L_law_146 (zl hl rfl) ?_
          refine lv_bipush (v := 6) hx hb d_L_law_148 (by decide) ?_
          refine lv_iadd hx hb d_L_law_150 ?_
          refine z_sld hx hb hXs hbl hbA hS (7 * k + 6) (nI_add (7 * k) 6) (by omega) (by omega) ha6 d_L_law_151 ?_
          refine lv_aload_n hx hb d_L_law_152 rfl (zl hl rfl) ?_
          have hD0 := hD
          refine z_call (z_runSW (n := 7) (As := [.ref (xa 0), .int a1, .int a2, .int a3, .long (kvS a4 a5), .int a6, .ref oa]) (rest := []) ⟨hx, hb, hml, hown, hts⟩ (c_L_add l hl0 hP hD hBB hX ho a1 a2 a3 (kvS a4 a5) a6 hI.2.2.2.1) rfl rfl ⟨Nat.le_of_ble_eq_true rfl, Nat.le_of_ble_eq_true rfl⟩ cw_L_add tw_289 tw_290 tw_29 (by decide +kernel) (zPw_S hKN (hZB.on (Nat.le_refl _) hS)) rfl rfl hl.1 rfl (lv_room (Nat.le_of_ble_eq_true rfl)) d_L_law_153 ⟨by show 29 + 2 * k + 2 ≤ 601024; omega, by show 3708 + 612 * k + 612 ≤ 7293034; omega⟩) hS (fun ws H locs hR hP hD hz9 hS => ?_)
          refine W.widen (k := 29 + 2 * (k + 1)) (n := 3708 + 612 * (k + 1)) (by omega) (by omega) ?_
          obtain ⟨hX2, ⟨go, ho3, hgo⟩, hFO⟩ := hR
          have hM := PM_fo hD0 hM ho hFO
          have ho := ho3
          refine lv_istore (lv' := [(5, .int (xAdd f ky (nI tm) n a1 a2 a3 (kvS a4 a5) a6)), (0, .ref b), (1, .ref (xa 0)), (2, .ref (ad 0)), (3, .ref oa), (4, .int (nI (7 * k)))]) hx hb d_L_law_156 hl (by decide) rfl (fun ls hl => ?_)
          refine lv_aload_n hx hb d_L_law_158 rfl (zl hl rfl) ?_
          refine lv_aload_n hx hb d_L_law_159 rfl (zl hl rfl) ?_
          refine lv_iload hx hb d_L_law_160 (zl hl rfl) ?_
          refine lv_iconst (v := 1) hx hb d_L_law_162 (by decide) ?_
          refine lv_iadd hx hb d_L_law_163 ?_
          refine z_sld hx hb hXs hbl hbA hS (7 * k + 1) (nI_add (7 * k) 1) (by omega) (by omega) ha1 d_L_law_164 ?_
          refine lv_aload_n hx hb d_L_law_165 rfl (zl hl rfl) ?_
          refine lv_iload hx hb d_L_law_166 (zl hl rfl) ?_
          refine lv_iconst (v := 2) hx hb d_L_law_168 (by decide) ?_
          refine lv_iadd hx hb d_L_law_169 ?_
          refine z_sld hx hb hXs hbl hbA hS (7 * k + 2) (nI_add (7 * k) 2) (by omega) (by omega) ha2 d_L_law_170 ?_
          refine lv_aload_n hx hb d_L_law_171 rfl (zl hl rfl) ?_
          refine lv_iload hx hb d_L_law_172 (zl hl rfl) ?_
          refine lv_iconst (v := 3) hx hb d_L_law_174 (by decide) ?_
          refine lv_iadd hx hb d_L_law_175 ?_
          refine z_sld hx hb hXs hbl hbA hS (7 * k + 3) (nI_add (7 * k) 3) (by omega) (by omega) ha3 d_L_law_176 ?_
          refine lv_aload_n hx hb d_L_law_177 rfl (zl hl rfl) ?_
          refine lv_iload hx hb d_L_law_178 (zl hl rfl) ?_
          refine lv_iconst (v := 4) hx hb d_L_law_180 (by decide) ?_
          refine lv_iadd hx hb d_L_law_181 ?_
          refine z_sld hx hb hXs hbl hbA hS (7 * k + 4) (nI_add (7 * k) 4) (by omega) (by omega) ha4 d_L_law_182 ?_
          refine lv_i2l (v := a4.toInt64) hx hb d_L_law_183 rfl ?_
          refine lv_bipush (v := 32) hx hb d_L_law_184 (by decide) ?_
          refine lv_lshl hx hb d_L_law_186 rfl ?_
          refine lv_aload_n hx hb d_L_law_187 rfl (zl hl rfl) ?_
          refine lv_iload hx hb d_L_law_188 (zl hl rfl) ?_
          refine lv_iconst (v := 5) hx hb d_L_law_190 (by decide) ?_
          refine lv_iadd hx hb d_L_law_191 ?_
          refine z_sld hx hb hXs hbl hbA hS (7 * k + 5) (nI_add (7 * k) 5) (by omega) (by omega) ha5 d_L_law_192 ?_
          refine lv_i2l (v := a5.toInt64) hx hb d_L_law_193 rfl ?_
          refine lv_ldc2 (v := 4294967295) hx hb hown (hts _ tw_738) d_L_law_194 ?_
          refine lv_land hx hb d_L_law_197 ?_
          refine lv_lor hx hb d_L_law_198 ?_
          refine W.eq (g2 := F0 m 199 ls [.long (kvS a4 a5), .int a3, .int a2, .int a1, .ref (ad 0)]) rfl ?_
          refine lv_aload_n hx hb d_L_law_199 rfl (zl hl rfl) ?_
          refine lv_iload hx hb d_L_law_200 (zl hl rfl) ?_
          refine lv_bipush (v := 6) hx hb d_L_law_202 (by decide) ?_
          refine lv_iadd hx hb d_L_law_204 ?_
          refine z_sld hx hb hXs hbl hbA hS (7 * k + 6) (nI_add (7 * k) 6) (by omega) (by omega) ha6 d_L_law_205 ?_
          refine z_call (va_runV (As := [.int a1, .int a2, .int a3, .long (kvS a4 a5), .int a6]) (rest := []) ⟨hx, hb, hml, hown, hts⟩ (c_M_add l hP hM hD a1 a2 a3 (kvS a4 a5) a6 hn) (cwV 5 hts (tt_V tw_628 tw_625 tw_626 tw_627 tw_36) rfl rfl rfl (by decide +kernel) ⟨Nat.le_of_ble_eq_true rfl, Nat.le_of_ble_eq_true rfl⟩) (zPc_V hKN hP (ci := 4) (q := (R_M, F_M, 15)) rfl (PM_o hM)) rfl rfl hl.1 rfl (lv_room (Nat.le_of_ble_eq_true rfl)) d_L_law_206 ⟨by show 29 + 2 * (k + 1) + 0 ≤ 601024; omega, by show 3708 + 612 * (k + 1) + 0 ≤ 7293034; omega⟩) hS (fun ws H locs hR hP hD hz9 hS => ?_)
          obtain ⟨hM, hFm⟩ := hR
          have hX2 := XS_fM hX2 hFm
          have ho := hFm _ _ rfl ho
          refine lv_istore (lv' := [(6, .int (rAdd f ky (nI tm) n a1 a2 a3 (kvS a4 a5) a6)), (5, .int (xAdd f ky (nI tm) n a1 a2 a3 (kvS a4 a5) a6)), (0, .ref b), (1, .ref (xa 0)), (2, .ref (ad 0)), (3, .ref oa), (4, .int (nI (7 * k)))]) hx hb d_L_law_209 hl (by decide) rfl (fun ls hl => ?_)
          refine lv_aload_n hx hb d_L_law_211 rfl (zl hl rfl) ?_
          refine z_calli (va_runV (As := []) (rest := []) ⟨hx, hb, hml, hown, hts⟩ (c_M_thrown l hP hM) (cwV 0 hts (tt_V tw_624 tw_621 tw_622 tw_623 tw_36) rfl rfl rfl (by decide +kernel) ⟨Nat.le_of_ble_eq_true rfl, Nat.le_of_ble_eq_true rfl⟩) (zPc_V hKN hP (ci := 4) (q := (R_M, F_M, 15)) rfl (PM_o hM)) rfl rfl hl.1 rfl (lv_room (Nat.le_of_ble_eq_true rfl)) d_L_law_212 ⟨by show 29 + 2 * (k + 1) + 0 ≤ 601024; omega, by show 3708 + 612 * (k + 1) + 0 ≤ 7293034; omega⟩) hS (fun locs hS => ?_)
          refine lv_iload hx hb d_L_law_215 (zl hl rfl) ?_
          refine lv_icmp_eq (tgt := 222) hx hb d_L_law_217 (by decide) (fun c_15 => ?_) (fun c_15 => ?_)
          · refine lv_iload hx hb d_L_law_222 (zl hl rfl) ?_
            refine lv_if_ne (tgt := 239) hx hb d_L_law_224 (by decide) (fun c_16 => ?_) (fun c_16 => ?_)
            · refine lv_goto (tgt := 689) hx hb d_L_law_239 (by decide) ?_
              refine lv_iinc (v := (nI (7 * (k + 1)))) (lv' := [(4, .int (nI (7 * (k + 1)))), (6, .int (rAdd f ky (nI tm) n a1 a2 a3 (kvS a4 a5) a6)), (5, .int (xAdd f ky (nI tm) n a1 a2 a3 (kvS a4 a5) a6)), (0, .ref b), (1, .ref (xa 0)), (2, .ref (ad 0)), (3, .ref oa)]) hx hb d_L_law_689 hl (k := 6) rfl (nI_add (7 * k) 7) (by decide) rfl (fun ls hl => ?_)
              refine lv_goto (tgt := 23) hx hb d_L_law_692 (by decide) ?_
              exact ih (k + 1) tm (if cNew f ky (nI tm) n a1 a2 a3 (kvS a4 a5) a6 = true then n + 1 else n) tok (if cNew f ky (nI tm) n a1 a2 a3 (kvS a4 a5) a6 = true then mAdd f n a1 a2 a3 (nI tm) a6 else f) (if cNew f ky (nI tm) n a1 a2 a3 (kvS a4 a5) a6 = true then vp_updL ky n (kvS a4 a5) else ky) ws H ls locs (by omega) (by omega) hX2 ⟨_, hM⟩ ⟨_, ho⟩ (Inv_addC hI hn) hP hD hS (lv_sub hl [3, 4, 5, 6, 0] rfl)
            · refine lv_aload_n hx hb d_L_law_227 rfl (zl hl rfl) ?_
              refine lv_iconst (v := 0) hx hb d_L_law_228 (by decide) ?_
              refine z_lald hx hb hK hP 1 ho rfl 0 rfl (by decide) (by decide) d_L_law_229 ?_
              refine lv_iload hx hb d_L_law_230 (zl hl rfl) ?_
              refine lv_i2l (v := (rAdd f ky (nI tm) n a1 a2 a3 (kvS a4 a5) a6).toInt64) hx hb d_L_law_232 rfl ?_
              refine W.lcmp hx hb d_L_law_233 ?_
              refine lv_if_eq (tgt := 239) hx hb d_L_law_234 (by decide) (fun c_17 => ?_) (fun c_17 => ?_)
              · refine lv_goto (tgt := 689) hx hb d_L_law_239 (by decide) ?_
                refine lv_iinc (v := (nI (7 * (k + 1)))) (lv' := [(4, .int (nI (7 * (k + 1)))), (6, .int (rAdd f ky (nI tm) n a1 a2 a3 (kvS a4 a5) a6)), (5, .int (xAdd f ky (nI tm) n a1 a2 a3 (kvS a4 a5) a6)), (0, .ref b), (1, .ref (xa 0)), (2, .ref (ad 0)), (3, .ref oa)]) hx hb d_L_law_689 hl (k := 6) rfl (nI_add (7 * k) 7) (by decide) rfl (fun ls hl => ?_)
                refine lv_goto (tgt := 23) hx hb d_L_law_692 (by decide) ?_
                exact ih (k + 1) tm (if cNew f ky (nI tm) n a1 a2 a3 (kvS a4 a5) a6 = true then n + 1 else n) tok (if cNew f ky (nI tm) n a1 a2 a3 (kvS a4 a5) a6 = true then mAdd f n a1 a2 a3 (nI tm) a6 else f) (if cNew f ky (nI tm) n a1 a2 a3 (kvS a4 a5) a6 = true then vp_updL ky n (kvS a4 a5) else ky) ws H ls locs (by omega) (by omega) hX2 ⟨_, hM⟩ ⟨_, ho⟩ (Inv_addC hI hn) hP hD hS (lv_sub hl [3, 4, 5, 6, 0] rfl)
              · exact absurd (lgc.mpr (hgo (c_16))) c_17
          · exact absurd rfl c_15
        · have e9 : z = 1 := hkk
          clear hkk
          subst e9
          refine lv_tableIn (tgt := 242) hx hb d_L_law_40 (by decide) (by decide) rfl (by decide) ?_
          refine lv_aload_n hx hb d_L_law_242 rfl (zl hl rfl) ?_
          refine lv_aload_n hx hb d_L_law_243 rfl (zl hl rfl) ?_
          refine lv_iload hx hb d_L_law_244 (zl hl rfl) ?_
          refine lv_iconst (v := 1) hx hb d_L_law_246 (by decide) ?_
          refine lv_iadd hx hb d_L_law_247 ?_
          refine z_sld hx hb hXs hbl hbA hS (7 * k + 1) (nI_add (7 * k) 1) (by omega) (by omega) ha1 d_L_law_248 ?_
          refine lv_aload_n hx hb d_L_law_249 rfl (zl hl rfl) ?_
          refine lv_iload hx hb d_L_law_250 (zl hl rfl) ?_
          refine lv_iconst (v := 2) hx hb d_L_law_252 (by decide) ?_
          refine lv_iadd hx hb d_L_law_253 ?_
          refine z_sld hx hb hXs hbl hbA hS (7 * k + 2) (nI_add (7 * k) 2) (by omega) (by omega) ha2 d_L_law_254 ?_
          refine lv_aload_n hx hb d_L_law_255 rfl (zl hl rfl) ?_
          have hD0 := hD
          refine z_call (z_runSW (n := 4) (As := [.ref (xa 0), .int a1, .int a2, .ref oa]) (rest := []) ⟨hx, hb, hml, hown, hts⟩ (c_L_lend l hl0 hP hD hBB hX ho a1 a2 (hI.2.2.2.2.1 a1)) rfl rfl ⟨Nat.le_of_ble_eq_true rfl, Nat.le_of_ble_eq_true rfl⟩ cw_L_lend tw_497 tw_498 tw_29 (by decide +kernel) (zPw_S hKN (hZB.on (Nat.le_refl _) hS)) rfl rfl hl.1 rfl (lv_room (Nat.le_of_ble_eq_true rfl)) d_L_law_256 ⟨by show 29 + 2 * k + 1 ≤ 601024; omega, by show 3708 + 612 * k + 6 ≤ 7293034; omega⟩) hS (fun ws H locs hR hP hD hz9 hS => ?_)
          refine W.widen (k := 29 + 2 * (k + 1)) (n := 3708 + 612 * (k + 1)) (by omega) (by omega) ?_
          obtain ⟨hX2, ⟨go, ho3, hgo⟩, hFO⟩ := hR
          have hM := PM_fo hD0 hM ho hFO
          have ho := ho3
          refine lv_istore (lv' := [(5, .int (if cLend a1 a2 = true then 0 else 1)), (0, .ref b), (1, .ref (xa 0)), (2, .ref (ad 0)), (3, .ref oa), (4, .int (nI (7 * k)))]) hx hb d_L_law_259 hl (by decide) rfl (fun ls hl => ?_)
          refine lv_aload_n hx hb d_L_law_261 rfl (zl hl rfl) ?_
          refine lv_aload_n hx hb d_L_law_262 rfl (zl hl rfl) ?_
          refine lv_iload hx hb d_L_law_263 (zl hl rfl) ?_
          refine lv_iconst (v := 1) hx hb d_L_law_265 (by decide) ?_
          refine lv_iadd hx hb d_L_law_266 ?_
          refine z_sld hx hb hXs hbl hbA hS (7 * k + 1) (nI_add (7 * k) 1) (by omega) (by omega) ha1 d_L_law_267 ?_
          refine lv_aload_n hx hb d_L_law_268 rfl (zl hl rfl) ?_
          refine lv_iload hx hb d_L_law_269 (zl hl rfl) ?_
          refine lv_iconst (v := 2) hx hb d_L_law_271 (by decide) ?_
          refine lv_iadd hx hb d_L_law_272 ?_
          refine z_sld hx hb hXs hbl hbA hS (7 * k + 2) (nI_add (7 * k) 2) (by omega) (by omega) ha2 d_L_law_273 ?_
          refine z_call (va_runV (As := [.int a1, .int a2]) (rest := []) ⟨hx, hb, hml, hown, hts⟩ (c_M_lend l hP hM hD a1 a2 hn hq hg) (cwV 2 hts (tt_V tw_651 tw_648 tw_649 tw_650 tw_36) rfl rfl rfl (by decide +kernel) ⟨Nat.le_of_ble_eq_true rfl, Nat.le_of_ble_eq_true rfl⟩) (zPc_V hKN hP (ci := 4) (q := (R_M, F_M, 15)) rfl (PM_o hM)) rfl rfl hl.1 rfl (lv_room (Nat.le_of_ble_eq_true rfl)) d_L_law_274 ⟨by show 29 + 2 * (k + 1) + 0 ≤ 601024; omega, by show 3708 + 612 * (k + 1) + 0 ≤ 7293034; omega⟩) hS (fun ws H locs hR hP hD hz9 hS => ?_)
          obtain ⟨hM, hFm⟩ := hR
          have hX2 := XS_fM hX2 hFm
          have ho := hFm _ _ rfl ho
          refine lv_istore (lv' := [(6, .int (rLend f (nI tm) n a1 a2 tok)), (5, .int (if cLend a1 a2 = true then 0 else 1)), (0, .ref b), (1, .ref (xa 0)), (2, .ref (ad 0)), (3, .ref oa), (4, .int (nI (7 * k)))]) hx hb d_L_law_277 hl (by decide) rfl (fun ls hl => ?_)
          refine lv_aload_n hx hb d_L_law_279 rfl (zl hl rfl) ?_
          refine z_calli (va_runV (As := []) (rest := []) ⟨hx, hb, hml, hown, hts⟩ (c_M_thrown l hP hM) (cwV 0 hts (tt_V tw_624 tw_621 tw_622 tw_623 tw_36) rfl rfl rfl (by decide +kernel) ⟨Nat.le_of_ble_eq_true rfl, Nat.le_of_ble_eq_true rfl⟩) (zPc_V hKN hP (ci := 4) (q := (R_M, F_M, 15)) rfl (PM_o hM)) rfl rfl hl.1 rfl (lv_room (Nat.le_of_ble_eq_true rfl)) d_L_law_280 ⟨by show 29 + 2 * (k + 1) + 0 ≤ 601024; omega, by show 3708 + 612 * (k + 1) + 0 ≤ 7293034; omega⟩) hS (fun locs hS => ?_)
          refine lv_iload hx hb d_L_law_283 (zl hl rfl) ?_
          refine lv_icmp_eq (tgt := 290) hx hb d_L_law_285 (by decide) (fun c_18 => ?_) (fun c_18 => ?_)
          · refine lv_iload hx hb d_L_law_290 (zl hl rfl) ?_
            refine lv_if_ne (tgt := 307) hx hb d_L_law_292 (by decide) (fun c_19 => ?_) (fun c_19 => ?_)
            · refine lv_goto (tgt := 689) hx hb d_L_law_307 (by decide) ?_
              refine lv_iinc (v := (nI (7 * (k + 1)))) (lv' := [(4, .int (nI (7 * (k + 1)))), (6, .int (rLend f (nI tm) n a1 a2 tok)), (5, .int (if cLend a1 a2 = true then 0 else 1)), (0, .ref b), (1, .ref (xa 0)), (2, .ref (ad 0)), (3, .ref oa)]) hx hb d_L_law_689 hl (k := 6) rfl (nI_add (7 * k) 7) (by decide) rfl (fun ls hl => ?_)
              refine lv_goto (tgt := 23) hx hb d_L_law_692 (by decide) ?_
              exact ih (k + 1) tm n (tLend f (nI tm) n a1 a2 tok) (mLend f (nI tm) n a1 a2 tok) ky ws H ls locs (by omega) (by omega) hX2 ⟨_, hM⟩ ⟨_, ho⟩ (Inv_lend hq hI hk a1 a2 tok) hP hD hS (lv_sub hl [3, 4, 5, 6, 0] rfl)
            · refine lv_aload_n hx hb d_L_law_295 rfl (zl hl rfl) ?_
              refine lv_iconst (v := 0) hx hb d_L_law_296 (by decide) ?_
              refine z_lald hx hb hK hP 1 ho rfl 0 rfl (by decide) (by decide) d_L_law_297 ?_
              refine lv_iload hx hb d_L_law_298 (zl hl rfl) ?_
              refine lv_i2l (v := (rLend f (nI tm) n a1 a2 tok).toInt64) hx hb d_L_law_300 rfl ?_
              refine W.lcmp hx hb d_L_law_301 ?_
              refine lv_if_eq (tgt := 307) hx hb d_L_law_302 (by decide) (fun c_20 => ?_) (fun c_20 => ?_)
              · refine lv_goto (tgt := 689) hx hb d_L_law_307 (by decide) ?_
                refine lv_iinc (v := (nI (7 * (k + 1)))) (lv' := [(4, .int (nI (7 * (k + 1)))), (6, .int (rLend f (nI tm) n a1 a2 tok)), (5, .int (if cLend a1 a2 = true then 0 else 1)), (0, .ref b), (1, .ref (xa 0)), (2, .ref (ad 0)), (3, .ref oa)]) hx hb d_L_law_689 hl (k := 6) rfl (nI_add (7 * k) 7) (by decide) rfl (fun ls hl => ?_)
                refine lv_goto (tgt := 23) hx hb d_L_law_692 (by decide) ?_
                exact ih (k + 1) tm n (tLend f (nI tm) n a1 a2 tok) (mLend f (nI tm) n a1 a2 tok) ky ws H ls locs (by omega) (by omega) hX2 ⟨_, hM⟩ ⟨_, ho⟩ (Inv_lend hq hI hk a1 a2 tok) hP hD hS (lv_sub hl [3, 4, 5, 6, 0] rfl)
              · exact absurd (lgc.mpr (hgo (if01 c_19))) c_20
          · exact absurd rfl c_18
        · have e9 : z = 2 := hkk
          clear hkk
          subst e9
          refine lv_tableIn (tgt := 310) hx hb d_L_law_40 (by decide) (by decide) rfl (by decide) ?_
          refine lv_aload_n hx hb d_L_law_310 rfl (zl hl rfl) ?_
          refine lv_aload_n hx hb d_L_law_311 rfl (zl hl rfl) ?_
          refine lv_iload hx hb d_L_law_312 (zl hl rfl) ?_
          refine lv_iconst (v := 1) hx hb d_L_law_314 (by decide) ?_
          refine lv_iadd hx hb d_L_law_315 ?_
          refine z_sld hx hb hXs hbl hbA hS (7 * k + 1) (nI_add (7 * k) 1) (by omega) (by omega) ha1 d_L_law_316 ?_
          refine W.widen (k := 29 + 2 * (k + 1)) (n := 3708 + 612 * (k + 1)) (by omega) (by omega) ?_
          refine z_call (va_runV (As := [.int a1]) (rest := []) ⟨hx, hb, hml, hown, hts⟩ (c_X_beat l hP hX hD a1) (cwV 1 hts (tt_V tw_152 tw_149 tw_150 tw_151 tw_30) rfl rfl rfl (by decide +kernel) ⟨Nat.le_of_ble_eq_true rfl, Nat.le_of_ble_eq_true rfl⟩) (zPc_V hKN hP (ci := 3) (q := (R_X, F_X, 5)) rfl (PX_x hX)) rfl rfl hl.1 rfl (lv_room (Nat.le_of_ble_eq_true rfl)) d_L_law_317 ⟨by show 29 + 2 * (k + 1) + 0 ≤ 601024; omega, by show 3708 + 612 * (k + 1) + 0 ≤ 7293034; omega⟩) hS (fun ws H locs hR hP hD hz9 hS => ?_)
          obtain ⟨⟨h9, hX9⟩, hF9⟩ := hR
          have hX2 : XS kk xa qad gad e0 qar gar (nI tm) tok n (mBeat f (nI tm) (fnd (pTok f a1) 0 n)) ky ws := ⟨tad, arr, ea, cap, md, h9, hX9⟩
          have hM := PM_fx hM hF9
          have ho := hF9 _ _ rfl ho
          refine lv_aload_n hx hb d_L_law_320 rfl (zl hl rfl) ?_
          refine lv_aload_n hx hb d_L_law_321 rfl (zl hl rfl) ?_
          refine lv_iload hx hb d_L_law_322 (zl hl rfl) ?_
          refine lv_iconst (v := 1) hx hb d_L_law_324 (by decide) ?_
          refine lv_iadd hx hb d_L_law_325 ?_
          refine z_sld hx hb hXs hbl hbA hS (7 * k + 1) (nI_add (7 * k) 1) (by omega) (by omega) ha1 d_L_law_326 ?_
          refine z_call (va_runV (As := [.int a1]) (rest := [.int (zb (fnd (pTok f a1) 0 n).isSome)]) ⟨hx, hb, hml, hown, hts⟩ (c_M_beat l hP hM hD a1 hn hq) (cwV 1 hts (tt_V tw_675 tw_672 tw_673 tw_674 tw_36) rfl rfl rfl (by decide +kernel) ⟨Nat.le_of_ble_eq_true rfl, Nat.le_of_ble_eq_true rfl⟩) (zPc_V hKN hP (ci := 4) (q := (R_M, F_M, 15)) rfl (PM_o hM)) rfl rfl hl.1 rfl (lv_room (Nat.le_of_ble_eq_true rfl)) d_L_law_327 ⟨by show 29 + 2 * (k + 1) + 0 ≤ 601024; omega, by show 3708 + 612 * (k + 1) + 0 ≤ 7293034; omega⟩) hS (fun ws H locs hR hP hD hz9 hS => ?_)
          obtain ⟨hM, hFm⟩ := hR
          have hX2 := XS_fM hX2 hFm
          have ho := hFm _ _ rfl ho
          refine lv_icmp_eq (tgt := 689) hx hb d_L_law_330 (by decide) (fun c_21 => ?_) (fun c_21 => ?_)
          · refine lv_iinc (v := (nI (7 * (k + 1)))) (lv' := [(4, .int (nI (7 * (k + 1)))), (0, .ref b), (1, .ref (xa 0)), (2, .ref (ad 0)), (3, .ref oa)]) hx hb d_L_law_689 hl (k := 4) rfl (nI_add (7 * k) 7) (by decide) rfl (fun ls hl => ?_)
            refine lv_goto (tgt := 23) hx hb d_L_law_692 (by decide) ?_
            exact ih (k + 1) tm n tok (mBeat f (nI tm) (fnd (pTok f a1) 0 n)) ky ws H ls locs (by omega) (by omega) hX2 ⟨_, hM⟩ ⟨_, ho⟩ (Inv_beat hq hI a1) hP hD hS (lv_sub hl [1, 2, 3, 4, 0] rfl)
          · exact absurd rfl c_21
        · have e9 : z = 3 := hkk
          clear hkk
          subst e9
          refine lv_tableIn (tgt := 335) hx hb d_L_law_40 (by decide) (by decide) rfl (by decide) ?_
          refine lv_aload_n hx hb d_L_law_335 rfl (zl hl rfl) ?_
          refine lv_aload_n hx hb d_L_law_336 rfl (zl hl rfl) ?_
          refine lv_iload hx hb d_L_law_337 (zl hl rfl) ?_
          refine lv_iconst (v := 1) hx hb d_L_law_339 (by decide) ?_
          refine lv_iadd hx hb d_L_law_340 ?_
          refine z_sld hx hb hXs hbl hbA hS (7 * k + 1) (nI_add (7 * k) 1) (by omega) (by omega) ha1 d_L_law_341 ?_
          refine lv_aload_n hx hb d_L_law_342 rfl (zl hl rfl) ?_
          refine lv_iload hx hb d_L_law_343 (zl hl rfl) ?_
          refine lv_iconst (v := 2) hx hb d_L_law_345 (by decide) ?_
          refine lv_iadd hx hb d_L_law_346 ?_
          refine z_sld hx hb hXs hbl hbA hS (7 * k + 2) (nI_add (7 * k) 2) (by omega) (by omega) ha2 d_L_law_347 ?_
          refine lv_aload_n hx hb d_L_law_348 rfl (zl hl rfl) ?_
          have hD0 := hD
          refine z_call (z_runSW (n := 4) (As := [.ref (xa 0), .int a1, .int a2, .ref oa]) (rest := []) ⟨hx, hb, hml, hown, hts⟩ (c_L_end l hl0 hP hD hBB hX ho a1 a2 hA hI.1) rfl rfl ⟨Nat.le_of_ble_eq_true rfl, Nat.le_of_ble_eq_true rfl⟩ cw_L_end tw_509 tw_510 tw_29 (by decide +kernel) (zPw_S hKN (hZB.on (Nat.le_refl _) hS)) rfl rfl hl.1 rfl (lv_room (Nat.le_of_ble_eq_true rfl)) d_L_law_349 ⟨by show 29 + 2 * k + 1 ≤ 601024; omega, by show 3708 + 612 * k + 6 ≤ 7293034; omega⟩) hS (fun ws H locs hR hP hD hz9 hS => ?_)
          refine W.widen (k := 29 + 2 * (k + 1)) (n := 3708 + 612 * (k + 1)) (by omega) (by omega) ?_
          obtain ⟨hX2, ⟨go, ho3, hgo⟩, hFO⟩ := hR
          have hM := PM_fo hD0 hM ho hFO
          have ho := ho3
          refine lv_istore (lv' := [(5, .int (xEnd f n a1 a2)), (0, .ref b), (1, .ref (xa 0)), (2, .ref (ad 0)), (3, .ref oa), (4, .int (nI (7 * k)))]) hx hb d_L_law_352 hl (by decide) rfl (fun ls hl => ?_)
          refine lv_aload_n hx hb d_L_law_354 rfl (zl hl rfl) ?_
          refine lv_aload_n hx hb d_L_law_355 rfl (zl hl rfl) ?_
          refine lv_iload hx hb d_L_law_356 (zl hl rfl) ?_
          refine lv_iconst (v := 1) hx hb d_L_law_358 (by decide) ?_
          refine lv_iadd hx hb d_L_law_359 ?_
          refine z_sld hx hb hXs hbl hbA hS (7 * k + 1) (nI_add (7 * k) 1) (by omega) (by omega) ha1 d_L_law_360 ?_
          refine lv_aload_n hx hb d_L_law_361 rfl (zl hl rfl) ?_
          refine lv_iload hx hb d_L_law_362 (zl hl rfl) ?_
          refine lv_iconst (v := 2) hx hb d_L_law_364 (by decide) ?_
          refine lv_iadd hx hb d_L_law_365 ?_
          refine z_sld hx hb hXs hbl hbA hS (7 * k + 2) (nI_add (7 * k) 2) (by omega) (by omega) ha2 d_L_law_366 ?_
          refine z_call (va_runV (As := [.int a1, .int a2]) (rest := []) ⟨hx, hb, hml, hown, hts⟩ (c_M_end l hP hM hD a1 a2 hn hq hA.2) (cwV 2 hts (tt_V tw_683 tw_680 tw_681 tw_682 tw_36) rfl rfl rfl (by decide +kernel) ⟨Nat.le_of_ble_eq_true rfl, Nat.le_of_ble_eq_true rfl⟩) (zPc_V hKN hP (ci := 4) (q := (R_M, F_M, 15)) rfl (PM_o hM)) rfl rfl hl.1 rfl (lv_room (Nat.le_of_ble_eq_true rfl)) d_L_law_367 ⟨by show 29 + 2 * (k + 1) + 0 ≤ 601024; omega, by show 3708 + 612 * (k + 1) + 0 ≤ 7293034; omega⟩) hS (fun ws H locs hR hP hD hz9 hS => ?_)
          obtain ⟨hM, hFm⟩ := hR
          have hX2 := XS_fM hX2 hFm
          have ho := hFm _ _ rfl ho
          refine lv_istore (lv' := [(6, .int (rEnd f n a1 a2)), (5, .int (xEnd f n a1 a2)), (0, .ref b), (1, .ref (xa 0)), (2, .ref (ad 0)), (3, .ref oa), (4, .int (nI (7 * k)))]) hx hb d_L_law_370 hl (by decide) rfl (fun ls hl => ?_)
          refine lv_aload_n hx hb d_L_law_372 rfl (zl hl rfl) ?_
          refine z_calli (va_runV (As := []) (rest := []) ⟨hx, hb, hml, hown, hts⟩ (c_M_thrown l hP hM) (cwV 0 hts (tt_V tw_624 tw_621 tw_622 tw_623 tw_36) rfl rfl rfl (by decide +kernel) ⟨Nat.le_of_ble_eq_true rfl, Nat.le_of_ble_eq_true rfl⟩) (zPc_V hKN hP (ci := 4) (q := (R_M, F_M, 15)) rfl (PM_o hM)) rfl rfl hl.1 rfl (lv_room (Nat.le_of_ble_eq_true rfl)) d_L_law_373 ⟨by show 29 + 2 * (k + 1) + 0 ≤ 601024; omega, by show 3708 + 612 * (k + 1) + 0 ≤ 7293034; omega⟩) hS (fun locs hS => ?_)
          refine lv_iload hx hb d_L_law_376 (zl hl rfl) ?_
          refine lv_icmp_eq (tgt := 383) hx hb d_L_law_378 (by decide) (fun c_22 => ?_) (fun c_22 => ?_)
          · refine lv_iload hx hb d_L_law_383 (zl hl rfl) ?_
            refine lv_if_ne (tgt := 400) hx hb d_L_law_385 (by decide) (fun c_23 => ?_) (fun c_23 => ?_)
            · refine lv_goto (tgt := 689) hx hb d_L_law_400 (by decide) ?_
              refine lv_iinc (v := (nI (7 * (k + 1)))) (lv' := [(4, .int (nI (7 * (k + 1)))), (6, .int (rEnd f n a1 a2)), (5, .int (xEnd f n a1 a2)), (0, .ref b), (1, .ref (xa 0)), (2, .ref (ad 0)), (3, .ref oa)]) hx hb d_L_law_689 hl (k := 6) rfl (nI_add (7 * k) 7) (by decide) rfl (fun ls hl => ?_)
              refine lv_goto (tgt := 23) hx hb d_L_law_692 (by decide) ?_
              exact ih (k + 1) tm n tok (mEnd f (nI tm) n a1 a2) ky ws H ls locs (by omega) (by omega) hX2 ⟨_, hM⟩ ⟨_, ho⟩ (Inv_end hq hI a1 a2) hP hD hS (lv_sub hl [3, 4, 5, 6, 0] rfl)
            · refine lv_aload_n hx hb d_L_law_388 rfl (zl hl rfl) ?_
              refine lv_iconst (v := 0) hx hb d_L_law_389 (by decide) ?_
              refine z_lald hx hb hK hP 1 ho rfl 0 rfl (by decide) (by decide) d_L_law_390 ?_
              refine lv_iload hx hb d_L_law_391 (zl hl rfl) ?_
              refine lv_i2l (v := (rEnd f n a1 a2).toInt64) hx hb d_L_law_393 rfl ?_
              refine W.lcmp hx hb d_L_law_394 ?_
              refine lv_if_eq (tgt := 400) hx hb d_L_law_395 (by decide) (fun c_24 => ?_) (fun c_24 => ?_)
              · refine lv_goto (tgt := 689) hx hb d_L_law_400 (by decide) ?_
                refine lv_iinc (v := (nI (7 * (k + 1)))) (lv' := [(4, .int (nI (7 * (k + 1)))), (6, .int (rEnd f n a1 a2)), (5, .int (xEnd f n a1 a2)), (0, .ref b), (1, .ref (xa 0)), (2, .ref (ad 0)), (3, .ref oa)]) hx hb d_L_law_689 hl (k := 6) rfl (nI_add (7 * k) 7) (by decide) rfl (fun ls hl => ?_)
                refine lv_goto (tgt := 23) hx hb d_L_law_692 (by decide) ?_
                exact ih (k + 1) tm n tok (mEnd f (nI tm) n a1 a2) ky ws H ls locs (by omega) (by omega) hX2 ⟨_, hM⟩ ⟨_, ho⟩ (Inv_end hq hI a1 a2) hP hD hS (lv_sub hl [3, 4, 5, 6, 0] rfl)
              · exact absurd (lgc.mpr (hgo (c_23))) c_24
          · exact absurd rfl c_22
        · have e9 : z = 4 := hkk
          clear hkk
          subst e9
          refine lv_tableIn (tgt := 403) hx hb d_L_law_40 (by decide) (by decide) rfl (by decide) ?_
          refine lv_aload_n hx hb d_L_law_403 rfl (zl hl rfl) ?_
          refine lv_aload_n hx hb d_L_law_404 rfl (zl hl rfl) ?_
          refine lv_iload hx hb d_L_law_405 (zl hl rfl) ?_
          refine lv_iconst (v := 1) hx hb d_L_law_407 (by decide) ?_
          refine lv_iadd hx hb d_L_law_408 ?_
          refine z_sld hx hb hXs hbl hbA hS (7 * k + 1) (nI_add (7 * k) 1) (by omega) (by omega) ha1 d_L_law_409 ?_
          refine lv_aload_n hx hb d_L_law_410 rfl (zl hl rfl) ?_
          have hD0 := hD
          refine z_call (z_runSW (n := 3) (As := [.ref (xa 0), .int a1, .ref oa]) (rest := []) ⟨hx, hb, hml, hown, hts⟩ (c_L_tick l hl0 hP hD hBB hX ho a1 tm rfl htm hI.2.1 hA hI.1) rfl rfl ⟨Nat.le_of_ble_eq_true rfl, Nat.le_of_ble_eq_true rfl⟩ cw_L_tick tw_548 tw_549 tw_29 (by decide +kernel) (zPw_S hKN (hZB.on (Nat.le_refl _) hS)) rfl rfl hl.1 rfl (lv_room (Nat.le_of_ble_eq_true rfl)) d_L_law_411 ⟨by show 29 + 2 * k + 1 ≤ 601024; omega, by show 3708 + 612 * k + 6 ≤ 7293034; omega⟩) hS (fun ws H locs hR hP hD hz9 hS => ?_)
          refine W.widen (k := 29 + 2 * (k + 1)) (n := 3708 + 612 * (k + 1)) (by omega) (by omega) ?_
          obtain ⟨hX2, ⟨go, ho3, hgo⟩, hFO⟩ := hR
          have hM := PM_fo hD0 hM ho hFO
          have ho := ho3
          refine lv_istore (lv' := [(5, .int (if sWithin a1 1 1000 = true then 0 else 1)), (0, .ref b), (1, .ref (xa 0)), (2, .ref (ad 0)), (3, .ref oa), (4, .int (nI (7 * k)))]) hx hb d_L_law_414 hl (by decide) rfl (fun ls hl => ?_)
          refine lv_aload_n hx hb d_L_law_416 rfl (zl hl rfl) ?_
          refine lv_aload_n hx hb d_L_law_417 rfl (zl hl rfl) ?_
          refine lv_iload hx hb d_L_law_418 (zl hl rfl) ?_
          refine lv_iconst (v := 1) hx hb d_L_law_420 (by decide) ?_
          refine lv_iadd hx hb d_L_law_421 ?_
          refine z_sld hx hb hXs hbl hbA hS (7 * k + 1) (nI_add (7 * k) 1) (by omega) (by omega) ha1 d_L_law_422 ?_
          refine z_call (va_runV (As := [.int a1]) (rest := []) ⟨hx, hb, hml, hown, hts⟩ (c_M_tick l hP hM hD a1 hn hA) (cwV 1 hts (tt_V tw_691 tw_688 tw_689 tw_690 tw_36) rfl rfl rfl (by decide +kernel) ⟨Nat.le_of_ble_eq_true rfl, Nat.le_of_ble_eq_true rfl⟩) (zPc_V hKN hP (ci := 4) (q := (R_M, F_M, 15)) rfl (PM_o hM)) rfl rfl hl.1 rfl (lv_room (Nat.le_of_ble_eq_true rfl)) d_L_law_423 ⟨by show 29 + 2 * (k + 1) + 0 ≤ 601024; omega, by show 3708 + 612 * (k + 1) + 0 ≤ 7293034; omega⟩) hS (fun ws H locs hR hP hD hz9 hS => ?_)
          obtain ⟨hM, hFm⟩ := hR
          have hX2 := XS_fM hX2 hFm
          have ho := hFm _ _ rfl ho
          refine lv_istore (lv' := [(6, .int (if sWithin a1 1 1000 = true then nI (outC f (nI tm) n (tx a1)) else 0)), (5, .int (if sWithin a1 1 1000 = true then 0 else 1)), (0, .ref b), (1, .ref (xa 0)), (2, .ref (ad 0)), (3, .ref oa), (4, .int (nI (7 * k)))]) hx hb d_L_law_426 hl (by decide) rfl (fun ls hl => ?_)
          refine lv_aload_n hx hb d_L_law_428 rfl (zl hl rfl) ?_
          refine z_calli (va_runV (As := []) (rest := []) ⟨hx, hb, hml, hown, hts⟩ (c_M_thrown l hP hM) (cwV 0 hts (tt_V tw_624 tw_621 tw_622 tw_623 tw_36) rfl rfl rfl (by decide +kernel) ⟨Nat.le_of_ble_eq_true rfl, Nat.le_of_ble_eq_true rfl⟩) (zPc_V hKN hP (ci := 4) (q := (R_M, F_M, 15)) rfl (PM_o hM)) rfl rfl hl.1 rfl (lv_room (Nat.le_of_ble_eq_true rfl)) d_L_law_429 ⟨by show 29 + 2 * (k + 1) + 0 ≤ 601024; omega, by show 3708 + 612 * (k + 1) + 0 ≤ 7293034; omega⟩) hS (fun locs hS => ?_)
          refine lv_iload hx hb d_L_law_432 (zl hl rfl) ?_
          refine lv_icmp_eq (tgt := 439) hx hb d_L_law_434 (by decide) (fun c_25 => ?_) (fun c_25 => ?_)
          · refine lv_iload hx hb d_L_law_439 (zl hl rfl) ?_
            refine lv_if_ne (tgt := 456) hx hb d_L_law_441 (by decide) (fun c_26 => ?_) (fun c_26 => ?_)
            · refine lv_goto (tgt := 689) hx hb d_L_law_456 (by decide) ?_
              refine lv_iinc (v := (nI (7 * (k + 1)))) (lv' := [(4, .int (nI (7 * (k + 1)))), (6, .int (if sWithin a1 1 1000 = true then nI (outC f (nI tm) n (tx a1)) else 0)), (5, .int (if sWithin a1 1 1000 = true then 0 else 1)), (0, .ref b), (1, .ref (xa 0)), (2, .ref (ad 0)), (3, .ref oa)]) hx hb d_L_law_689 hl (k := 6) rfl (nI_add (7 * k) 7) (by decide) rfl (fun ls hl => ?_)
              refine lv_goto (tgt := 23) hx hb d_L_law_692 (by decide) ?_
              by_cases hC : sWithin a1 1 1000 = true
              · rw [if_pos hC, if_pos hC] at hX2
                rw [if_pos hC, if_pos hC, if_pos hC] at hM
                obtain ⟨N, hN1, hN2, eN⟩ := sWithin_2 (a := 1) (b := 1000) (by decide) (by decide) hC
                rw [eN, tx_nI (by omega), nI_add tm N] at hX2 hM
                exact ih (k + 1) (tm + N) n tok (outF f (nI tm) n N) ky ws H ls locs (by omega) (by omega) hX2 ⟨_, hM⟩ ⟨_, ho⟩ (Inv_tick hI hk hN2) hP hD hS (lv_sub hl [3, 4, 5, 6, 0] rfl)
              · rw [if_neg hC, if_neg hC] at hX2
                rw [if_neg hC, if_neg hC, if_neg hC] at hM
                exact ih (k + 1) tm n tok f ky ws H ls locs (by omega) (by omega) hX2 ⟨_, hM⟩ ⟨_, ho⟩ (Inv_step hI) hP hD hS (lv_sub hl [3, 4, 5, 6, 0] rfl)
            · refine lv_aload_n hx hb d_L_law_444 rfl (zl hl rfl) ?_
              refine lv_iconst (v := 0) hx hb d_L_law_445 (by decide) ?_
              refine z_lald hx hb hK hP 1 ho rfl 0 rfl (by decide) (by decide) d_L_law_446 ?_
              refine lv_iload hx hb d_L_law_447 (zl hl rfl) ?_
              refine lv_i2l (v := (if sWithin a1 1 1000 = true then nI (outC f (nI tm) n (tx a1)) else 0).toInt64) hx hb d_L_law_449 rfl ?_
              refine W.lcmp hx hb d_L_law_450 ?_
              refine lv_if_eq (tgt := 456) hx hb d_L_law_451 (by decide) (fun c_27 => ?_) (fun c_27 => ?_)
              · refine lv_goto (tgt := 689) hx hb d_L_law_456 (by decide) ?_
                refine lv_iinc (v := (nI (7 * (k + 1)))) (lv' := [(4, .int (nI (7 * (k + 1)))), (6, .int (if sWithin a1 1 1000 = true then nI (outC f (nI tm) n (tx a1)) else 0)), (5, .int (if sWithin a1 1 1000 = true then 0 else 1)), (0, .ref b), (1, .ref (xa 0)), (2, .ref (ad 0)), (3, .ref oa)]) hx hb d_L_law_689 hl (k := 6) rfl (nI_add (7 * k) 7) (by decide) rfl (fun ls hl => ?_)
                refine lv_goto (tgt := 23) hx hb d_L_law_692 (by decide) ?_
                by_cases hC : sWithin a1 1 1000 = true
                · rw [if_pos hC, if_pos hC] at hX2
                  rw [if_pos hC, if_pos hC, if_pos hC] at hM
                  obtain ⟨N, hN1, hN2, eN⟩ := sWithin_2 (a := 1) (b := 1000) (by decide) (by decide) hC
                  rw [eN, tx_nI (by omega), nI_add tm N] at hX2 hM
                  exact ih (k + 1) (tm + N) n tok (outF f (nI tm) n N) ky ws H ls locs (by omega) (by omega) hX2 ⟨_, hM⟩ ⟨_, ho⟩ (Inv_tick hI hk hN2) hP hD hS (lv_sub hl [3, 4, 5, 6, 0] rfl)
                · rw [if_neg hC, if_neg hC] at hX2
                  rw [if_neg hC, if_neg hC, if_neg hC] at hM
                  exact ih (k + 1) tm n tok f ky ws H ls locs (by omega) (by omega) hX2 ⟨_, hM⟩ ⟨_, ho⟩ (Inv_step hI) hP hD hS (lv_sub hl [3, 4, 5, 6, 0] rfl)
              · exact absurd (lgc.mpr (hgo (if01 c_26))) c_27
          · exact absurd rfl c_25
        · have e9 : z = 5 := hkk
          clear hkk
          subst e9
          refine lv_tableIn (tgt := 459) hx hb d_L_law_40 (by decide) (by decide) rfl (by decide) ?_
          refine lv_aload_n hx hb d_L_law_459 rfl (zl hl rfl) ?_
          refine lv_aload_n hx hb d_L_law_460 rfl (zl hl rfl) ?_
          refine lv_iload hx hb d_L_law_461 (zl hl rfl) ?_
          refine lv_iconst (v := 1) hx hb d_L_law_463 (by decide) ?_
          refine lv_iadd hx hb d_L_law_464 ?_
          refine z_sld hx hb hXs hbl hbA hS (7 * k + 1) (nI_add (7 * k) 1) (by omega) (by omega) ha1 d_L_law_465 ?_
          refine W.widen (k := 29 + 2 * (k + 1)) (n := 3708 + 612 * (k + 1)) (by omega) (by omega) ?_
          refine z_call (va_runV (As := [.int a1]) (rest := []) ⟨hx, hb, hml, hown, hts⟩ (c_X_cancel l hP hX hD a1) (cwV 1 hts (tt_V tw_179 tw_176 tw_177 tw_178 tw_30) rfl rfl rfl (by decide +kernel) ⟨Nat.le_of_ble_eq_true rfl, Nat.le_of_ble_eq_true rfl⟩) (zPc_V hKN hP (ci := 3) (q := (R_X, F_X, 5)) rfl (PX_x hX)) rfl rfl hl.1 rfl (lv_room (Nat.le_of_ble_eq_true rfl)) d_L_law_466 ⟨by show 29 + 2 * (k + 1) + 0 ≤ 601024; omega, by show 3708 + 612 * (k + 1) + 0 ≤ 7293034; omega⟩) hS (fun ws H locs hR hP hD hz9 hS => ?_)
          obtain ⟨⟨h9, hX9⟩, hF9⟩ := hR
          have hX2 : XS kk xa qad gad e0 qar gar (nI tm) tok n (mCan f n a1) ky ws := ⟨tad, arr, ea, cap, md, h9, hX9⟩
          have hM := PM_fx hM hF9
          have ho := hF9 _ _ rfl ho
          refine lv_aload_n hx hb d_L_law_469 rfl (zl hl rfl) ?_
          refine lv_aload_n hx hb d_L_law_470 rfl (zl hl rfl) ?_
          refine lv_iload hx hb d_L_law_471 (zl hl rfl) ?_
          refine lv_iconst (v := 1) hx hb d_L_law_473 (by decide) ?_
          refine lv_iadd hx hb d_L_law_474 ?_
          refine z_sld hx hb hXs hbl hbA hS (7 * k + 1) (nI_add (7 * k) 1) (by omega) (by omega) ha1 d_L_law_475 ?_
          refine z_call (va_runV (As := [.int a1]) (rest := [.int (zb (cCan f n a1))]) ⟨hx, hb, hml, hown, hts⟩ (c_M_cancel l hP hM hD a1 hn) (cwV 1 hts (tt_V tw_695 tw_692 tw_693 tw_694 tw_36) rfl rfl rfl (by decide +kernel) ⟨Nat.le_of_ble_eq_true rfl, Nat.le_of_ble_eq_true rfl⟩) (zPc_V hKN hP (ci := 4) (q := (R_M, F_M, 15)) rfl (PM_o hM)) rfl rfl hl.1 rfl (lv_room (Nat.le_of_ble_eq_true rfl)) d_L_law_476 ⟨by show 29 + 2 * (k + 1) + 0 ≤ 601024; omega, by show 3708 + 612 * (k + 1) + 0 ≤ 7293034; omega⟩) hS (fun ws H locs hR hP hD hz9 hS => ?_)
          obtain ⟨hM, hFm⟩ := hR
          have hX2 := XS_fM hX2 hFm
          have ho := hFm _ _ rfl ho
          refine lv_icmp_eq (tgt := 689) hx hb d_L_law_479 (by decide) (fun c_28 => ?_) (fun c_28 => ?_)
          · refine lv_iinc (v := (nI (7 * (k + 1)))) (lv' := [(4, .int (nI (7 * (k + 1)))), (0, .ref b), (1, .ref (xa 0)), (2, .ref (ad 0)), (3, .ref oa)]) hx hb d_L_law_689 hl (k := 4) rfl (nI_add (7 * k) 7) (by decide) rfl (fun ls hl => ?_)
            refine lv_goto (tgt := 23) hx hb d_L_law_692 (by decide) ?_
            exact ih (k + 1) tm n tok (mCan f n a1) ky ws H ls locs (by omega) (by omega) hX2 ⟨_, hM⟩ ⟨_, ho⟩ (Inv_can hI hn a1) hP hD hS (lv_sub hl [1, 2, 3, 4, 0] rfl)
          · exact absurd rfl c_28
        · have e9 : z = 6 := hkk
          clear hkk
          subst e9
          refine lv_tableIn (tgt := 484) hx hb d_L_law_40 (by decide) (by decide) rfl (by decide) ?_
          refine lv_aload_n hx hb d_L_law_484 rfl (zl hl rfl) ?_
          refine lv_aload_n hx hb d_L_law_485 rfl (zl hl rfl) ?_
          refine lv_iload hx hb d_L_law_486 (zl hl rfl) ?_
          refine lv_iconst (v := 1) hx hb d_L_law_488 (by decide) ?_
          refine lv_iadd hx hb d_L_law_489 ?_
          refine z_sld hx hb hXs hbl hbA hS (7 * k + 1) (nI_add (7 * k) 1) (by omega) (by omega) ha1 d_L_law_490 ?_
          refine W.widen (k := 29 + 2 * (k + 1)) (n := 3708 + 612 * (k + 1)) (by omega) (by omega) ?_
          refine z_call (va_runV (As := [.int a1]) (rest := []) ⟨hx, hb, hml, hown, hts⟩ (c_X_revive l hP hX hD a1 hI.2.2.2.1) (cwV 1 hts (tt_V tw_198 tw_195 tw_196 tw_197 tw_30) rfl rfl rfl (by decide +kernel) ⟨Nat.le_of_ble_eq_true rfl, Nat.le_of_ble_eq_true rfl⟩) (zPc_V hKN hP (ci := 3) (q := (R_X, F_X, 5)) rfl (PX_x hX)) rfl rfl hl.1 rfl (lv_room (Nat.le_of_ble_eq_true rfl)) d_L_law_491 ⟨by show 29 + 2 * (k + 1) + 0 ≤ 601024; omega, by show 3708 + 612 * (k + 1) + 0 ≤ 7293034; omega⟩) hS (fun ws H locs hR hP hD hz9 hS => ?_)
          obtain ⟨⟨h9, hX9⟩, hF9⟩ := hR
          have hX2 : XS kk xa qad gad e0 qar gar (nI tm) tok n (mRev f n (nI tm) a1) ky ws := ⟨tad, arr, ea, cap, md, h9, hX9⟩
          have hM := PM_fx hM hF9
          have ho := hF9 _ _ rfl ho
          refine lv_aload_n hx hb d_L_law_494 rfl (zl hl rfl) ?_
          refine lv_aload_n hx hb d_L_law_495 rfl (zl hl rfl) ?_
          refine lv_iload hx hb d_L_law_496 (zl hl rfl) ?_
          refine lv_iconst (v := 1) hx hb d_L_law_498 (by decide) ?_
          refine lv_iadd hx hb d_L_law_499 ?_
          refine z_sld hx hb hXs hbl hbA hS (7 * k + 1) (nI_add (7 * k) 1) (by omega) (by omega) ha1 d_L_law_500 ?_
          refine z_call (va_runV (As := [.int a1]) (rest := [.int (zb (cRev f n a1))]) ⟨hx, hb, hml, hown, hts⟩ (c_M_revive l hP hM hD a1 hn) (cwV 1 hts (tt_V tw_703 tw_700 tw_701 tw_702 tw_36) rfl rfl rfl (by decide +kernel) ⟨Nat.le_of_ble_eq_true rfl, Nat.le_of_ble_eq_true rfl⟩) (zPc_V hKN hP (ci := 4) (q := (R_M, F_M, 15)) rfl (PM_o hM)) rfl rfl hl.1 rfl (lv_room (Nat.le_of_ble_eq_true rfl)) d_L_law_501 ⟨by show 29 + 2 * (k + 1) + 0 ≤ 601024; omega, by show 3708 + 612 * (k + 1) + 0 ≤ 7293034; omega⟩) hS (fun ws H locs hR hP hD hz9 hS => ?_)
          obtain ⟨hM, hFm⟩ := hR
          have hX2 := XS_fM hX2 hFm
          have ho := hFm _ _ rfl ho
          refine lv_icmp_eq (tgt := 689) hx hb d_L_law_504 (by decide) (fun c_29 => ?_) (fun c_29 => ?_)
          · refine lv_iinc (v := (nI (7 * (k + 1)))) (lv' := [(4, .int (nI (7 * (k + 1)))), (0, .ref b), (1, .ref (xa 0)), (2, .ref (ad 0)), (3, .ref oa)]) hx hb d_L_law_689 hl (k := 4) rfl (nI_add (7 * k) 7) (by decide) rfl (fun ls hl => ?_)
            refine lv_goto (tgt := 23) hx hb d_L_law_692 (by decide) ?_
            exact ih (k + 1) tm n tok (mRev f n (nI tm) a1) ky ws H ls locs (by omega) (by omega) hX2 ⟨_, hM⟩ ⟨_, ho⟩ (Inv_rev hI hn a1) hP hD hS (lv_sub hl [1, 2, 3, 4, 0] rfl)
          · exact absurd rfl c_29
        · have e9 : z = 7 := hkk
          clear hkk
          subst e9
          refine lv_tableIn (tgt := 509) hx hb d_L_law_40 (by decide) (by decide) rfl (by decide) ?_
          refine lv_aload_n hx hb d_L_law_509 rfl (zl hl rfl) ?_
          refine lv_aload_n hx hb d_L_law_510 rfl (zl hl rfl) ?_
          refine lv_iload hx hb d_L_law_511 (zl hl rfl) ?_
          refine lv_iconst (v := 1) hx hb d_L_law_513 (by decide) ?_
          refine lv_iadd hx hb d_L_law_514 ?_
          refine z_sld hx hb hXs hbl hbA hS (7 * k + 1) (nI_add (7 * k) 1) (by omega) (by omega) ha1 d_L_law_515 ?_
          refine lv_aload_n hx hb d_L_law_516 rfl (zl hl rfl) ?_
          refine lv_iload hx hb d_L_law_517 (zl hl rfl) ?_
          refine lv_iconst (v := 2) hx hb d_L_law_519 (by decide) ?_
          refine lv_iadd hx hb d_L_law_520 ?_
          refine z_sld hx hb hXs hbl hbA hS (7 * k + 2) (nI_add (7 * k) 2) (by omega) (by omega) ha2 d_L_law_521 ?_
          refine lv_aload_n hx hb d_L_law_522 rfl (zl hl rfl) ?_
          refine lv_iload hx hb d_L_law_523 (zl hl rfl) ?_
          refine lv_iconst (v := 3) hx hb d_L_law_525 (by decide) ?_
          refine lv_iadd hx hb d_L_law_526 ?_
          refine z_sld hx hb hXs hbl hbA hS (7 * k + 3) (nI_add (7 * k) 3) (by omega) (by omega) ha3 d_L_law_527 ?_
          refine W.widen (k := 29 + 2 * (k + 1)) (n := 3708 + 612 * (k + 1)) (by omega) (by omega) ?_
          refine z_call (va_runV (As := [.int a1, .int a2, .int a3]) (rest := []) ⟨hx, hb, hml, hown, hts⟩ (c_X_set l hP hX hD a1 a2 a3) (cwV 3 hts (tt_V tw_215 tw_212 tw_213 tw_214 tw_30) rfl rfl rfl (by decide +kernel) ⟨Nat.le_of_ble_eq_true rfl, Nat.le_of_ble_eq_true rfl⟩) (zPc_V hKN hP (ci := 3) (q := (R_X, F_X, 5)) rfl (PX_x hX)) rfl rfl hl.1 rfl (lv_room (Nat.le_of_ble_eq_true rfl)) d_L_law_528 ⟨by show 29 + 2 * (k + 1) + 0 ≤ 601024; omega, by show 3708 + 612 * (k + 1) + 0 ≤ 7293034; omega⟩) hS (fun ws H locs hR hP hD hz9 hS => ?_)
          obtain ⟨⟨h9, hX9⟩, hF9⟩ := hR
          have hX2 : XS kk xa qad gad e0 qar gar (nI tm) tok n (mSet f a1 a2 a3) ky ws := ⟨tad, arr, ea, cap, md, h9, hX9⟩
          have hM := PM_fx hM hF9
          have ho := hF9 _ _ rfl ho
          refine lv_aload_n hx hb d_L_law_531 rfl (zl hl rfl) ?_
          refine lv_aload_n hx hb d_L_law_532 rfl (zl hl rfl) ?_
          refine lv_iload hx hb d_L_law_533 (zl hl rfl) ?_
          refine lv_iconst (v := 1) hx hb d_L_law_535 (by decide) ?_
          refine lv_iadd hx hb d_L_law_536 ?_
          refine z_sld hx hb hXs hbl hbA hS (7 * k + 1) (nI_add (7 * k) 1) (by omega) (by omega) ha1 d_L_law_537 ?_
          refine lv_aload_n hx hb d_L_law_538 rfl (zl hl rfl) ?_
          refine lv_iload hx hb d_L_law_539 (zl hl rfl) ?_
          refine lv_iconst (v := 2) hx hb d_L_law_541 (by decide) ?_
          refine lv_iadd hx hb d_L_law_542 ?_
          refine z_sld hx hb hXs hbl hbA hS (7 * k + 2) (nI_add (7 * k) 2) (by omega) (by omega) ha2 d_L_law_543 ?_
          refine lv_aload_n hx hb d_L_law_544 rfl (zl hl rfl) ?_
          refine lv_iload hx hb d_L_law_545 (zl hl rfl) ?_
          refine lv_iconst (v := 3) hx hb d_L_law_547 (by decide) ?_
          refine lv_iadd hx hb d_L_law_548 ?_
          refine z_sld hx hb hXs hbl hbA hS (7 * k + 3) (nI_add (7 * k) 3) (by omega) (by omega) ha3 d_L_law_549 ?_
          refine z_call (va_runV (As := [.int a1, .int a2, .int a3]) (rest := [.int (zb (cSet a1 a2 a3))]) ⟨hx, hb, hml, hown, hts⟩ (c_M_set l hP hM hD a1 a2 a3) (cwV 3 hts (tt_V tw_707 tw_704 tw_705 tw_706 tw_36) rfl rfl rfl (by decide +kernel) ⟨Nat.le_of_ble_eq_true rfl, Nat.le_of_ble_eq_true rfl⟩) (zPc_V hKN hP (ci := 4) (q := (R_M, F_M, 15)) rfl (PM_o hM)) rfl rfl hl.1 rfl (lv_room (Nat.le_of_ble_eq_true rfl)) d_L_law_550 ⟨by show 29 + 2 * (k + 1) + 0 ≤ 601024; omega, by show 3708 + 612 * (k + 1) + 0 ≤ 7293034; omega⟩) hS (fun ws H locs hR hP hD hz9 hS => ?_)
          obtain ⟨hM, hFm⟩ := hR
          have hX2 := XS_fM hX2 hFm
          have ho := hFm _ _ rfl ho
          refine lv_icmp_eq (tgt := 689) hx hb d_L_law_553 (by decide) (fun c_30 => ?_) (fun c_30 => ?_)
          · refine lv_iinc (v := (nI (7 * (k + 1)))) (lv' := [(4, .int (nI (7 * (k + 1)))), (0, .ref b), (1, .ref (xa 0)), (2, .ref (ad 0)), (3, .ref oa)]) hx hb d_L_law_689 hl (k := 4) rfl (nI_add (7 * k) 7) (by decide) rfl (fun ls hl => ?_)
            refine lv_goto (tgt := 23) hx hb d_L_law_692 (by decide) ?_
            exact ih (k + 1) tm n tok (mSet f a1 a2 a3) ky ws H ls locs (by omega) (by omega) hX2 ⟨_, hM⟩ ⟨_, ho⟩ (Inv_set hI a1 a2 a3) hP hD hS (lv_sub hl [1, 2, 3, 4, 0] rfl)
          · exact absurd rfl c_30
        · have e9 : z = 8 := hkk
          clear hkk
          subst e9
          refine lv_tableIn (tgt := 558) hx hb d_L_law_40 (by decide) (by decide) rfl (by decide) ?_
          refine lv_aload_n hx hb d_L_law_558 rfl (zl hl rfl) ?_
          refine lv_aload_n hx hb d_L_law_559 rfl (zl hl rfl) ?_
          refine lv_iload hx hb d_L_law_560 (zl hl rfl) ?_
          refine lv_iconst (v := 1) hx hb d_L_law_562 (by decide) ?_
          refine lv_iadd hx hb d_L_law_563 ?_
          refine z_sld hx hb hXs hbl hbA hS (7 * k + 1) (nI_add (7 * k) 1) (by omega) (by omega) ha1 d_L_law_564 ?_
          refine lv_aload_n hx hb d_L_law_565 rfl (zl hl rfl) ?_
          refine lv_iload hx hb d_L_law_566 (zl hl rfl) ?_
          refine lv_iconst (v := 2) hx hb d_L_law_568 (by decide) ?_
          refine lv_iadd hx hb d_L_law_569 ?_
          refine z_sld hx hb hXs hbl hbA hS (7 * k + 2) (nI_add (7 * k) 2) (by omega) (by omega) ha2 d_L_law_570 ?_
          refine lv_aload_n hx hb d_L_law_571 rfl (zl hl rfl) ?_
          have hD0 := hD
          refine z_call (z_runSW (n := 4) (As := [.ref (xa 0), .int a1, .int a2, .ref oa]) (rest := []) ⟨hx, hb, hml, hown, hts⟩ (c_L_task l hl0 hP hD hBB hX ho a1 a2) rfl rfl ⟨Nat.le_of_ble_eq_true rfl, Nat.le_of_ble_eq_true rfl⟩ cw_L_task tw_556 tw_557 tw_29 (by decide +kernel) (zPw_S hKN (hZB.on (Nat.le_refl _) hS)) rfl rfl hl.1 rfl (lv_room (Nat.le_of_ble_eq_true rfl)) d_L_law_572 ⟨by show 29 + 2 * k + 1 ≤ 601024; omega, by show 3708 + 612 * k + 6 ≤ 7293034; omega⟩) hS (fun ws H locs hR hP hD hz9 hS => ?_)
          refine W.widen (k := 29 + 2 * (k + 1)) (n := 3708 + 612 * (k + 1)) (by omega) (by omega) ?_
          obtain ⟨hX2, ⟨go, ho3, hgo⟩, hFO⟩ := hR
          have hM := PM_fo hD0 hM ho hFO
          have ho := ho3
          refine lv_istore (lv' := [(5, .int (if cTask n a1 a2 = true then 0 else 1)), (0, .ref b), (1, .ref (xa 0)), (2, .ref (ad 0)), (3, .ref oa), (4, .int (nI (7 * k)))]) hx hb d_L_law_575 hl (by decide) rfl (fun ls hl => ?_)
          refine lv_aload_n hx hb d_L_law_577 rfl (zl hl rfl) ?_
          refine lv_aload_n hx hb d_L_law_578 rfl (zl hl rfl) ?_
          refine lv_iload hx hb d_L_law_579 (zl hl rfl) ?_
          refine lv_iconst (v := 1) hx hb d_L_law_581 (by decide) ?_
          refine lv_iadd hx hb d_L_law_582 ?_
          refine z_sld hx hb hXs hbl hbA hS (7 * k + 1) (nI_add (7 * k) 1) (by omega) (by omega) ha1 d_L_law_583 ?_
          refine lv_aload_n hx hb d_L_law_584 rfl (zl hl rfl) ?_
          refine lv_iload hx hb d_L_law_585 (zl hl rfl) ?_
          refine lv_iconst (v := 2) hx hb d_L_law_587 (by decide) ?_
          refine lv_iadd hx hb d_L_law_588 ?_
          refine z_sld hx hb hXs hbl hbA hS (7 * k + 2) (nI_add (7 * k) 2) (by omega) (by omega) ha2 d_L_law_589 ?_
          refine z_call (va_runV (As := [.int a1, .int a2]) (rest := []) ⟨hx, hb, hml, hown, hts⟩ (c_M_task l hP hM hD a1 a2 hn hq) (cwV 2 hts (tt_V tw_717 tw_714 tw_715 tw_716 tw_36) rfl rfl rfl (by decide +kernel) ⟨Nat.le_of_ble_eq_true rfl, Nat.le_of_ble_eq_true rfl⟩) (zPc_V hKN hP (ci := 4) (q := (R_M, F_M, 15)) rfl (PM_o hM)) rfl rfl hl.1 rfl (lv_room (Nat.le_of_ble_eq_true rfl)) d_L_law_590 ⟨by show 29 + 2 * (k + 1) + 0 ≤ 601024; omega, by show 3708 + 612 * (k + 1) + 0 ≤ 7293034; omega⟩) hS (fun ws H locs hR hP hD hz9 hS => ?_)
          obtain ⟨hM, hFm⟩ := hR
          have hX2 := XS_fM hX2 hFm
          have ho := hFm _ _ rfl ho
          refine lv_istore (lv' := [(6, .int (mTask f (nI tm) n a1 a2)), (5, .int (if cTask n a1 a2 = true then 0 else 1)), (0, .ref b), (1, .ref (xa 0)), (2, .ref (ad 0)), (3, .ref oa), (4, .int (nI (7 * k)))]) hx hb d_L_law_593 hl (by decide) rfl (fun ls hl => ?_)
          refine lv_aload_n hx hb d_L_law_595 rfl (zl hl rfl) ?_
          refine z_calli (va_runV (As := []) (rest := []) ⟨hx, hb, hml, hown, hts⟩ (c_M_thrown l hP hM) (cwV 0 hts (tt_V tw_624 tw_621 tw_622 tw_623 tw_36) rfl rfl rfl (by decide +kernel) ⟨Nat.le_of_ble_eq_true rfl, Nat.le_of_ble_eq_true rfl⟩) (zPc_V hKN hP (ci := 4) (q := (R_M, F_M, 15)) rfl (PM_o hM)) rfl rfl hl.1 rfl (lv_room (Nat.le_of_ble_eq_true rfl)) d_L_law_596 ⟨by show 29 + 2 * (k + 1) + 0 ≤ 601024; omega, by show 3708 + 612 * (k + 1) + 0 ≤ 7293034; omega⟩) hS (fun locs hS => ?_)
          refine lv_iload hx hb d_L_law_599 (zl hl rfl) ?_
          refine lv_icmp_eq (tgt := 606) hx hb d_L_law_601 (by decide) (fun c_31 => ?_) (fun c_31 => ?_)
          · refine lv_iload hx hb d_L_law_606 (zl hl rfl) ?_
            refine lv_if_ne (tgt := 623) hx hb d_L_law_608 (by decide) (fun c_32 => ?_) (fun c_32 => ?_)
            · refine lv_goto (tgt := 689) hx hb d_L_law_623 (by decide) ?_
              refine lv_iinc (v := (nI (7 * (k + 1)))) (lv' := [(4, .int (nI (7 * (k + 1)))), (6, .int (mTask f (nI tm) n a1 a2)), (5, .int (if cTask n a1 a2 = true then 0 else 1)), (0, .ref b), (1, .ref (xa 0)), (2, .ref (ad 0)), (3, .ref oa)]) hx hb d_L_law_689 hl (k := 6) rfl (nI_add (7 * k) 7) (by decide) rfl (fun ls hl => ?_)
              refine lv_goto (tgt := 23) hx hb d_L_law_692 (by decide) ?_
              exact ih (k + 1) tm n tok f ky ws H ls locs (by omega) (by omega) hX2 ⟨_, hM⟩ ⟨_, ho⟩ (Inv_step hI) hP hD hS (lv_sub hl [3, 4, 5, 6, 0] rfl)
            · refine lv_aload_n hx hb d_L_law_611 rfl (zl hl rfl) ?_
              refine lv_iconst (v := 0) hx hb d_L_law_612 (by decide) ?_
              refine z_lald hx hb hK hP 1 ho rfl 0 rfl (by decide) (by decide) d_L_law_613 ?_
              refine lv_iload hx hb d_L_law_614 (zl hl rfl) ?_
              refine lv_i2l (v := (mTask f (nI tm) n a1 a2).toInt64) hx hb d_L_law_616 rfl ?_
              refine W.lcmp hx hb d_L_law_617 ?_
              refine lv_if_eq (tgt := 623) hx hb d_L_law_618 (by decide) (fun c_33 => ?_) (fun c_33 => ?_)
              · refine lv_goto (tgt := 689) hx hb d_L_law_623 (by decide) ?_
                refine lv_iinc (v := (nI (7 * (k + 1)))) (lv' := [(4, .int (nI (7 * (k + 1)))), (6, .int (mTask f (nI tm) n a1 a2)), (5, .int (if cTask n a1 a2 = true then 0 else 1)), (0, .ref b), (1, .ref (xa 0)), (2, .ref (ad 0)), (3, .ref oa)]) hx hb d_L_law_689 hl (k := 6) rfl (nI_add (7 * k) 7) (by decide) rfl (fun ls hl => ?_)
                refine lv_goto (tgt := 23) hx hb d_L_law_692 (by decide) ?_
                exact ih (k + 1) tm n tok f ky ws H ls locs (by omega) (by omega) hX2 ⟨_, hM⟩ ⟨_, ho⟩ (Inv_step hI) hP hD hS (lv_sub hl [3, 4, 5, 6, 0] rfl)
              · exact absurd (lgc.mpr (hgo (if01 c_32))) c_33
          · exact absurd rfl c_31
        · have e9 : z = 9 := hkk
          clear hkk
          subst e9
          refine lv_tableIn (tgt := 626) hx hb d_L_law_40 (by decide) (by decide) rfl (by decide) ?_
          refine lv_aload_n hx hb d_L_law_626 rfl (zl hl rfl) ?_
          refine lv_aload_n hx hb d_L_law_627 rfl (zl hl rfl) ?_
          refine lv_iload hx hb d_L_law_628 (zl hl rfl) ?_
          refine lv_iconst (v := 1) hx hb d_L_law_630 (by decide) ?_
          refine lv_iadd hx hb d_L_law_631 ?_
          refine z_sld hx hb hXs hbl hbA hS (7 * k + 1) (nI_add (7 * k) 1) (by omega) (by omega) ha1 d_L_law_632 ?_
          refine W.widen (k := 29 + 2 * (k + 1)) (n := 3708 + 612 * (k + 1)) (by omega) (by omega) ?_
          refine z_calli (va_runV (As := [.int a1]) (rest := []) ⟨hx, hb, hml, hown, hts⟩ (c_X_first l hP hX a1) (cwV 1 hts (tt_V tw_238 tw_235 tw_236 tw_237 tw_30) rfl rfl rfl (by decide +kernel) ⟨Nat.le_of_ble_eq_true rfl, Nat.le_of_ble_eq_true rfl⟩) (zPc_V hKN hP (ci := 3) (q := (R_X, F_X, 5)) rfl (PX_x hX)) rfl rfl hl.1 rfl (lv_room (Nat.le_of_ble_eq_true rfl)) d_L_law_633 ⟨by show 29 + 2 * (k + 1) + 0 ≤ 601024; omega, by show 3708 + 612 * (k + 1) + 0 ≤ 7293034; omega⟩) hS (fun locs hS => ?_)
          have hX2 : XS kk xa qad gad e0 qar gar (nI tm) tok n f ky ws := ⟨tad, arr, ea, cap, md, h, hX⟩
          refine lv_aload_n hx hb d_L_law_636 rfl (zl hl rfl) ?_
          refine lv_aload_n hx hb d_L_law_637 rfl (zl hl rfl) ?_
          refine lv_iload hx hb d_L_law_638 (zl hl rfl) ?_
          refine lv_iconst (v := 1) hx hb d_L_law_640 (by decide) ?_
          refine lv_iadd hx hb d_L_law_641 ?_
          refine z_sld hx hb hXs hbl hbA hS (7 * k + 1) (nI_add (7 * k) 1) (by omega) (by omega) ha1 d_L_law_642 ?_
          refine z_call (va_runV (As := [.int a1]) (rest := [.int (mFirst f (nI tm) n a1)]) ⟨hx, hb, hml, hown, hts⟩ (c_M_first l hP hM hD a1 hn hq hg) (cwV 1 hts (tt_V tw_721 tw_718 tw_719 tw_720 tw_36) rfl rfl rfl (by decide +kernel) ⟨Nat.le_of_ble_eq_true rfl, Nat.le_of_ble_eq_true rfl⟩) (zPc_V hKN hP (ci := 4) (q := (R_M, F_M, 15)) rfl (PM_o hM)) rfl rfl hl.1 rfl (lv_room (Nat.le_of_ble_eq_true rfl)) d_L_law_643 ⟨by show 29 + 2 * (k + 1) + 0 ≤ 601024; omega, by show 3708 + 612 * (k + 1) + 0 ≤ 7293034; omega⟩) hS (fun ws H locs hR hP hD hz9 hS => ?_)
          obtain ⟨hM, hFm⟩ := hR
          have hX2 := XS_fM hX2 hFm
          have ho := hFm _ _ rfl ho
          refine lv_icmp_eq (tgt := 689) hx hb d_L_law_646 (by decide) (fun c_34 => ?_) (fun c_34 => ?_)
          · refine lv_iinc (v := (nI (7 * (k + 1)))) (lv' := [(4, .int (nI (7 * (k + 1)))), (0, .ref b), (1, .ref (xa 0)), (2, .ref (ad 0)), (3, .ref oa)]) hx hb d_L_law_689 hl (k := 4) rfl (nI_add (7 * k) 7) (by decide) rfl (fun ls hl => ?_)
            refine lv_goto (tgt := 23) hx hb d_L_law_692 (by decide) ?_
            exact ih (k + 1) tm n tok f ky ws H ls locs (by omega) (by omega) hX2 ⟨_, hM⟩ ⟨_, ho⟩ (Inv_step hI) hP hD hS (lv_sub hl [1, 2, 3, 4, 0] rfl)
          · exact absurd rfl c_34
        · have e9 : z = 10 := hkk
          clear hkk
          subst e9
          refine lv_tableIn (tgt := 651) hx hb d_L_law_40 (by decide) (by decide) rfl (by decide) ?_
          refine lv_aload_n hx hb d_L_law_651 rfl (zl hl rfl) ?_
          refine W.widen (k := 29 + 2 * (k + 1)) (n := 3708 + 612 * (k + 1)) (by omega) (by omega) ?_
          refine z_calli (va_runV (As := []) (rest := []) ⟨hx, hb, hml, hown, hts⟩ (c_X_next l hP hX (zneg1 htm)) (cwV 0 hts (tt_V tw_265 tw_262 tw_263 tw_264 tw_30) rfl rfl rfl (by decide +kernel) ⟨Nat.le_of_ble_eq_true rfl, Nat.le_of_ble_eq_true rfl⟩) (zPc_V hKN hP (ci := 3) (q := (R_X, F_X, 5)) rfl (PX_x hX)) rfl rfl hl.1 rfl (lv_room (Nat.le_of_ble_eq_true rfl)) d_L_law_652 ⟨by show 29 + 2 * (k + 1) + 0 ≤ 601024; omega, by show 3708 + 612 * (k + 1) + 0 ≤ 7293034; omega⟩) hS (fun locs hS => ?_)
          have hX2 : XS kk xa qad gad e0 qar gar (nI tm) tok n f ky ws := ⟨tad, arr, ea, cap, md, h, hX⟩
          refine lv_aload_n hx hb d_L_law_655 rfl (zl hl rfl) ?_
          refine z_call (va_runV (As := []) (rest := [.int (nxs f (nI tm) n)]) ⟨hx, hb, hml, hown, hts⟩ (c_M_next l hP hM hD hn) (cwV 0 hts (tt_V tw_725 tw_722 tw_723 tw_724 tw_36) rfl rfl rfl (by decide +kernel) ⟨Nat.le_of_ble_eq_true rfl, Nat.le_of_ble_eq_true rfl⟩) (zPc_V hKN hP (ci := 4) (q := (R_M, F_M, 15)) rfl (PM_o hM)) rfl rfl hl.1 rfl (lv_room (Nat.le_of_ble_eq_true rfl)) d_L_law_656 ⟨by show 29 + 2 * (k + 1) + 0 ≤ 601024; omega, by show 3708 + 612 * (k + 1) + 0 ≤ 7293034; omega⟩) hS (fun ws H locs hR hP hD hz9 hS => ?_)
          obtain ⟨hM, hFm⟩ := hR
          have hX2 := XS_fM hX2 hFm
          have ho := hFm _ _ rfl ho
          refine lv_icmp_eq (tgt := 689) hx hb d_L_law_659 (by decide) (fun c_35 => ?_) (fun c_35 => ?_)
          · refine lv_iinc (v := (nI (7 * (k + 1)))) (lv' := [(4, .int (nI (7 * (k + 1)))), (0, .ref b), (1, .ref (xa 0)), (2, .ref (ad 0)), (3, .ref oa)]) hx hb d_L_law_689 hl (k := 4) rfl (nI_add (7 * k) 7) (by decide) rfl (fun ls hl => ?_)
            refine lv_goto (tgt := 23) hx hb d_L_law_692 (by decide) ?_
            exact ih (k + 1) tm n tok f ky ws H ls locs (by omega) (by omega) hX2 ⟨_, hM⟩ ⟨_, ho⟩ (Inv_step hI) hP hD hS (lv_sub hl [1, 2, 3, 4, 0] rfl)
          · exact absurd rfl c_35
        · have e9 : z = 11 := hkk
          clear hkk
          subst e9
          refine lv_tableIn (tgt := 664) hx hb d_L_law_40 (by decide) (by decide) rfl (by decide) ?_
          refine lv_aload_n hx hb d_L_law_664 rfl (zl hl rfl) ?_
          refine lv_aload_n hx hb d_L_law_665 rfl (zl hl rfl) ?_
          refine lv_iload hx hb d_L_law_666 (zl hl rfl) ?_
          refine lv_iconst (v := 1) hx hb d_L_law_668 (by decide) ?_
          refine lv_iadd hx hb d_L_law_669 ?_
          refine z_sld hx hb hXs hbl hbA hS (7 * k + 1) (nI_add (7 * k) 1) (by omega) (by omega) ha1 d_L_law_670 ?_
          refine W.widen (k := 29 + 2 * (k + 1)) (n := 3708 + 612 * (k + 1)) (by omega) (by omega) ?_
          refine z_calli (va_runV (As := [.int a1]) (rest := []) ⟨hx, hb, hml, hown, hts⟩ (c_X_count l hP hX a1) (cwV 1 hts (tt_V tw_273 tw_270 tw_271 tw_272 tw_30) rfl rfl rfl (by decide +kernel) ⟨Nat.le_of_ble_eq_true rfl, Nat.le_of_ble_eq_true rfl⟩) (zPc_V hKN hP (ci := 3) (q := (R_X, F_X, 5)) rfl (PX_x hX)) rfl rfl hl.1 rfl (lv_room (Nat.le_of_ble_eq_true rfl)) d_L_law_671 ⟨by show 29 + 2 * (k + 1) + 0 ≤ 601024; omega, by show 3708 + 612 * (k + 1) + 0 ≤ 7293034; omega⟩) hS (fun locs hS => ?_)
          have hX2 : XS kk xa qad gad e0 qar gar (nI tm) tok n f ky ws := ⟨tad, arr, ea, cap, md, h, hX⟩
          refine lv_aload_n hx hb d_L_law_674 rfl (zl hl rfl) ?_
          refine lv_aload_n hx hb d_L_law_675 rfl (zl hl rfl) ?_
          refine lv_iload hx hb d_L_law_676 (zl hl rfl) ?_
          refine lv_iconst (v := 1) hx hb d_L_law_678 (by decide) ?_
          refine lv_iadd hx hb d_L_law_679 ?_
          refine z_sld hx hb hXs hbl hbA hS (7 * k + 1) (nI_add (7 * k) 1) (by omega) (by omega) ha1 d_L_law_680 ?_
          refine z_call (va_runV (As := [.int a1]) (rest := [.int (mCount f (nI tm) n a1)]) ⟨hx, hb, hml, hown, hts⟩ (c_M_count l hP hM hD a1 hn) (cwV 1 hts (tt_V tw_729 tw_726 tw_727 tw_728 tw_36) rfl rfl rfl (by decide +kernel) ⟨Nat.le_of_ble_eq_true rfl, Nat.le_of_ble_eq_true rfl⟩) (zPc_V hKN hP (ci := 4) (q := (R_M, F_M, 15)) rfl (PM_o hM)) rfl rfl hl.1 rfl (lv_room (Nat.le_of_ble_eq_true rfl)) d_L_law_681 ⟨by show 29 + 2 * (k + 1) + 0 ≤ 601024; omega, by show 3708 + 612 * (k + 1) + 0 ≤ 7293034; omega⟩) hS (fun ws H locs hR hP hD hz9 hS => ?_)
          obtain ⟨hM, hFm⟩ := hR
          have hX2 := XS_fM hX2 hFm
          have ho := hFm _ _ rfl ho
          refine lv_icmp_eq (tgt := 689) hx hb d_L_law_684 (by decide) (fun c_36 => ?_) (fun c_36 => ?_)
          · refine lv_iinc (v := (nI (7 * (k + 1)))) (lv' := [(4, .int (nI (7 * (k + 1)))), (0, .ref b), (1, .ref (xa 0)), (2, .ref (ad 0)), (3, .ref oa)]) hx hb d_L_law_689 hl (k := 4) rfl (nI_add (7 * k) 7) (by decide) rfl (fun ls hl => ?_)
            refine lv_goto (tgt := 23) hx hb d_L_law_692 (by decide) ?_
            exact ih (k + 1) tm n tok f ky ws H ls locs (by omega) (by omega) hX2 ⟨_, hM⟩ ⟨_, ho⟩ (Inv_step hI) hP hD hS (lv_sub hl [1, 2, 3, 4, 0] rfl)
          · exact absurd rfl c_36

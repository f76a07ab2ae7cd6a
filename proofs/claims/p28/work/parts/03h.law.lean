def f_L_call_b0 (z : Sh9)  (x0 : Nat) (x1 : Int32) (x2 : Int32) (x3 : Int32) (x4 : Int32) (M : Mem9) : Re9 :=
  (if x1 = (0 : Int32) then (bi9 (f_L_tryAppend z x0 x2 M) fun v2 M1 => (ri9 v2 M1)) else (if x1 = (1 : Int32) then (bi9 (f_L_tryLoad z x0 M) fun v5 M4 => (ri9 v5 M4)) else (if x1 = (2 : Int32) then (bi9 (f_L_tryAbout z x0 x2 M) fun v8 M7 => (ri9 v8 M7)) else (if x1 = (3 : Int32) then (bi9 (f_L_tryLane z x0 x2 x3 M) fun v11 M10 => (ri9 v11 M10)) else (if x1 = (4 : Int32) then (bi9 (f_L_tryVehicle z x0 x2 x3 x4 M) fun v14 M13 => (ri9 v14 M13)) else (if x1 = (5 : Int32) then (bi9 (f_L_tryWhy z x0 x2 M) fun v17 M16 => (ri9 v17 M16)) else (if x1 = (6 : Int32) then (bi9 (f_L_trySetting z x0 x2 M) fun v20 M19 => (ri9 v20 M19)) else (if x1 = (7 : Int32) then (bi9 (f_L_tryAdd z x0 M) fun v23 M22 => (ri9 v23 M22)) else (if x1 = (8 : Int32) then (bi9 (f_L_tryMend z x0 x2 M) fun v26 M25 => (ri9 v26 M25)) else (if x1 = (9 : Int32) then (bi9 (f_L_tryRun z x0 x2 M) fun v29 M28 => (ri9 v29 M28)) else (if x1 = (10 : Int32) then (bi9 (f_L_tryLay z x0 x2 x3 M) fun v32 M31 => (ri9 v32 M31)) else (if x1 = (11 : Int32) then (bi9 (f_L_tryUndo z x0 M) fun v35 M34 => (ri9 v35 M34)) else (if x1 = (12 : Int32) then (bi9 (f_L_tryEmpty z x0 x2 M) fun v38 M37 => (ri9 v38 M37)) else (if x1 = (13 : Int32) then (bi9 (f_L_tryThrough z x0 x2 x3 M) fun v41 M40 => (ri9 v41 M40)) else (if x1 = (14 : Int32) then (bi9 (f_L_tryBest z x0 x2 M) fun v44 M43 => (ri9 v44 M43)) else (if x1 = (15 : Int32) then (bi9 (f_L_tryComing z x0 x2 x3 M) fun v47 M46 => (ri9 v47 M46)) else (if x1 = (16 : Int32) then (bi9 (f_L_tryHits z x0 x2 M) fun v50 M49 => (ri9 v50 M49)) else (if x1 = (17 : Int32) then (bi9 (f_L_tryKeep z x0 x2 M) fun v53 M52 => (ri9 v53 M52)) else (bi9 (f_L_tryBack z x0 x2 M) fun v56 M55 => (ri9 v56 M55))))))))))))))))))))
set_option maxRecDepth 20000 in
set_option maxHeartbeats 4000000 in
theorem t_L_call_b0 {z : Sh9} {N : Nv9} {X : Cx9} {out : Out9 × Mem9} {κ : Ka9} (C : OK9 z N X out 5 (1, 6 * 1) cL_call RL 10 1 [])  (hk : lq9 κ (1) (1, 6 * 1)) (x0 : Nat) (x1 : Int32) (x2 : Int32) (x3 : Int32) (x4 : Int32) (M : Mem9) : J9 z N X out 5 0 [(0, .ref x0), (1, .int x1), (2, .int x2), (3, .int x3), (4, .int x4)] [] M κ (f_L_call_b0 z  x0 x1 x2 x3 x4 M) := by
  refine j_ks0 ?_
  refine j_iload_n (pc := 0) C dL_call_0 rfl ?_
  refine j_ite (fun hc3 => ?_) (fun hc3 => ?_)
  · refine j_tsIn (pc := 1) C (0) dL_call_1 (by rw [hc3]; rfl) (by decide) (off := 87) rfl (tgt := 88) (by decide) ?_
    refine j_aload_n (pc := 88) C dL_call_88 rfl ?_
    refine j_iload_n (pc := 89) C dL_call_89 rfl ?_
    refine j_callQW (pc := 90) (κ := ks9 κ 0) (κ1 := ks9 κ 1) (c := 1) C rfl dL_call_90 lw_L_95 rfl (Nat.le_of_ble_eq_true rfl) (Nat.le_of_ble_eq_true rfl) (by decide) (ks_add rfl) (lq_le hk (by omega)) (fun l hl o ho => sp_L_tryAppend hl ho) (fun v2 M1 => ?_)
    exact j_ireturn (pc := 93) C rfl dL_call_93 (lq_end hk (by omega))
  · refine j_ite (fun hc6 => ?_) (fun hc6 => ?_)
    · refine j_tsIn (pc := 1) C (1) dL_call_1 (by rw [hc6]; rfl) (by decide) (off := 93) rfl (tgt := 94) (by decide) ?_
      refine j_aload_n (pc := 94) C dL_call_94 rfl ?_
      refine j_callQW (pc := 95) (κ := ks9 κ 0) (κ1 := ks9 κ 1) (c := 1) C rfl dL_call_95 lw_L_101 rfl (Nat.le_of_ble_eq_true rfl) (Nat.le_of_ble_eq_true rfl) (by decide) (ks_add rfl) (lq_le hk (by omega)) (fun l hl o ho => sp_L_tryLoad hl ho) (fun v5 M4 => ?_)
      exact j_ireturn (pc := 98) C rfl dL_call_98 (lq_end hk (by omega))
    · refine j_ite (fun hc9 => ?_) (fun hc9 => ?_)
      · refine j_tsIn (pc := 1) C (2) dL_call_1 (by rw [hc9]; rfl) (by decide) (off := 98) rfl (tgt := 99) (by decide) ?_
        refine j_aload_n (pc := 99) C dL_call_99 rfl ?_
        refine j_iload_n (pc := 100) C dL_call_100 rfl ?_
        refine j_callQW (pc := 101) (κ := ks9 κ 0) (κ1 := ks9 κ 1) (c := 1) C rfl dL_call_101 lw_L_105 rfl (Nat.le_of_ble_eq_true rfl) (Nat.le_of_ble_eq_true rfl) (by decide) (ks_add rfl) (lq_le hk (by omega)) (fun l hl o ho => sp_L_tryAbout hl ho) (fun v8 M7 => ?_)
        exact j_ireturn (pc := 104) C rfl dL_call_104 (lq_end hk (by omega))
      · refine j_ite (fun hc12 => ?_) (fun hc12 => ?_)
        · refine j_tsIn (pc := 1) C (3) dL_call_1 (by rw [hc12]; rfl) (by decide) (off := 104) rfl (tgt := 105) (by decide) ?_
          refine j_aload_n (pc := 105) C dL_call_105 rfl ?_
          refine j_iload_n (pc := 106) C dL_call_106 rfl ?_
          refine j_iload_n (pc := 107) C dL_call_107 rfl ?_
          refine j_callQW (pc := 108) (κ := ks9 κ 0) (κ1 := ks9 κ 1) (c := 1) C rfl dL_call_108 lw_L_108 rfl (Nat.le_of_ble_eq_true rfl) (Nat.le_of_ble_eq_true rfl) (by decide) (ks_add rfl) (lq_le hk (by omega)) (fun l hl o ho => sp_L_tryLane hl ho) (fun v11 M10 => ?_)
          exact j_ireturn (pc := 111) C rfl dL_call_111 (lq_end hk (by omega))
        · refine j_ite (fun hc15 => ?_) (fun hc15 => ?_)
          · refine j_tsIn (pc := 1) C (4) dL_call_1 (by rw [hc15]; rfl) (by decide) (off := 111) rfl (tgt := 112) (by decide) ?_
            refine j_aload_n (pc := 112) C dL_call_112 rfl ?_
            refine j_iload_n (pc := 113) C dL_call_113 rfl ?_
            refine j_iload_n (pc := 114) C dL_call_114 rfl ?_
            refine j_iload (pc := 115) C dL_call_115 rfl ?_
            refine j_callQW (pc := 117) (κ := ks9 κ 0) (κ1 := ks9 κ 1) (c := 1) C rfl dL_call_117 lw_L_112 rfl (Nat.le_of_ble_eq_true rfl) (Nat.le_of_ble_eq_true rfl) (by decide) (ks_add rfl) (lq_le hk (by omega)) (fun l hl o ho => sp_L_tryVehicle hl ho) (fun v14 M13 => ?_)
            exact j_ireturn (pc := 120) C rfl dL_call_120 (lq_end hk (by omega))
          · refine j_ite (fun hc18 => ?_) (fun hc18 => ?_)
            · refine j_tsIn (pc := 1) C (5) dL_call_1 (by rw [hc18]; rfl) (by decide) (off := 120) rfl (tgt := 121) (by decide) ?_
              refine j_aload_n (pc := 121) C dL_call_121 rfl ?_
              refine j_iload_n (pc := 122) C dL_call_122 rfl ?_
              refine j_callQW (pc := 123) (κ := ks9 κ 0) (κ1 := ks9 κ 1) (c := 1) C rfl dL_call_123 lw_L_116 rfl (Nat.le_of_ble_eq_true rfl) (Nat.le_of_ble_eq_true rfl) (by decide) (ks_add rfl) (lq_le hk (by omega)) (fun l hl o ho => sp_L_tryWhy hl ho) (fun v17 M16 => ?_)
              exact j_ireturn (pc := 126) C rfl dL_call_126 (lq_end hk (by omega))
            · refine j_ite (fun hc21 => ?_) (fun hc21 => ?_)
              · refine j_tsIn (pc := 1) C (6) dL_call_1 (by rw [hc21]; rfl) (by decide) (off := 126) rfl (tgt := 127) (by decide) ?_
                refine j_aload_n (pc := 127) C dL_call_127 rfl ?_
                refine j_iload_n (pc := 128) C dL_call_128 rfl ?_
                refine j_callQW (pc := 129) (κ := ks9 κ 0) (κ1 := ks9 κ 1) (c := 1) C rfl dL_call_129 lw_L_119 rfl (Nat.le_of_ble_eq_true rfl) (Nat.le_of_ble_eq_true rfl) (by decide) (ks_add rfl) (lq_le hk (by omega)) (fun l hl o ho => sp_L_trySetting hl ho) (fun v20 M19 => ?_)
                exact j_ireturn (pc := 132) C rfl dL_call_132 (lq_end hk (by omega))
              · refine j_ite (fun hc24 => ?_) (fun hc24 => ?_)
                · refine j_tsIn (pc := 1) C (7) dL_call_1 (by rw [hc24]; rfl) (by decide) (off := 132) rfl (tgt := 133) (by decide) ?_
                  refine j_aload_n (pc := 133) C dL_call_133 rfl ?_
                  refine j_callQW (pc := 134) (κ := ks9 κ 0) (κ1 := ks9 κ 1) (c := 1) C rfl dL_call_134 lw_L_122 rfl (Nat.le_of_ble_eq_true rfl) (Nat.le_of_ble_eq_true rfl) (by decide) (ks_add rfl) (lq_le hk (by omega)) (fun l hl o ho => sp_L_tryAdd hl ho) (fun v23 M22 => ?_)
                  exact j_ireturn (pc := 137) C rfl dL_call_137 (lq_end hk (by omega))
                · refine j_ite (fun hc27 => ?_) (fun hc27 => ?_)
                  · refine j_tsIn (pc := 1) C (8) dL_call_1 (by rw [hc27]; rfl) (by decide) (off := 137) rfl (tgt := 138) (by decide) ?_
                    refine j_aload_n (pc := 138) C dL_call_138 rfl ?_
                    refine j_iload_n (pc := 139) C dL_call_139 rfl ?_
                    refine j_callQW (pc := 140) (κ := ks9 κ 0) (κ1 := ks9 κ 1) (c := 1) C rfl dL_call_140 lw_L_125 rfl (Nat.le_of_ble_eq_true rfl) (Nat.le_of_ble_eq_true rfl) (by decide) (ks_add rfl) (lq_le hk (by omega)) (fun l hl o ho => sp_L_tryMend hl ho) (fun v26 M25 => ?_)
                    exact j_ireturn (pc := 143) C rfl dL_call_143 (lq_end hk (by omega))
                  · refine j_ite (fun hc30 => ?_) (fun hc30 => ?_)
                    · refine j_tsIn (pc := 1) C (9) dL_call_1 (by rw [hc30]; rfl) (by decide) (off := 143) rfl (tgt := 144) (by decide) ?_
                      refine j_aload_n (pc := 144) C dL_call_144 rfl ?_
                      refine j_iload_n (pc := 145) C dL_call_145 rfl ?_
                      refine j_callQW (pc := 146) (κ := ks9 κ 0) (κ1 := ks9 κ 1) (c := 1) C rfl dL_call_146 lw_L_128 rfl (Nat.le_of_ble_eq_true rfl) (Nat.le_of_ble_eq_true rfl) (by decide) (ks_add rfl) (lq_le hk (by omega)) (fun l hl o ho => sp_L_tryRun hl ho) (fun v29 M28 => ?_)
                      exact j_ireturn (pc := 149) C rfl dL_call_149 (lq_end hk (by omega))
                    · refine j_ite (fun hc33 => ?_) (fun hc33 => ?_)
                      · refine j_tsIn (pc := 1) C (10) dL_call_1 (by rw [hc33]; rfl) (by decide) (off := 149) rfl (tgt := 150) (by decide) ?_
                        refine j_aload_n (pc := 150) C dL_call_150 rfl ?_
                        refine j_iload_n (pc := 151) C dL_call_151 rfl ?_
                        refine j_iload_n (pc := 152) C dL_call_152 rfl ?_
                        refine j_callQW (pc := 153) (κ := ks9 κ 0) (κ1 := ks9 κ 1) (c := 1) C rfl dL_call_153 lw_L_131 rfl (Nat.le_of_ble_eq_true rfl) (Nat.le_of_ble_eq_true rfl) (by decide) (ks_add rfl) (lq_le hk (by omega)) (fun l hl o ho => sp_L_tryLay hl ho) (fun v32 M31 => ?_)
                        exact j_ireturn (pc := 156) C rfl dL_call_156 (lq_end hk (by omega))
                      · refine j_ite (fun hc36 => ?_) (fun hc36 => ?_)
                        · refine j_tsIn (pc := 1) C (11) dL_call_1 (by rw [hc36]; rfl) (by decide) (off := 156) rfl (tgt := 157) (by decide) ?_
                          refine j_aload_n (pc := 157) C dL_call_157 rfl ?_
                          refine j_callQW (pc := 158) (κ := ks9 κ 0) (κ1 := ks9 κ 1) (c := 1) C rfl dL_call_158 lw_L_134 rfl (Nat.le_of_ble_eq_true rfl) (Nat.le_of_ble_eq_true rfl) (by decide) (ks_add rfl) (lq_le hk (by omega)) (fun l hl o ho => sp_L_tryUndo hl ho) (fun v35 M34 => ?_)
                          exact j_ireturn (pc := 161) C rfl dL_call_161 (lq_end hk (by omega))
                        · refine j_ite (fun hc39 => ?_) (fun hc39 => ?_)
                          · refine j_tsIn (pc := 1) C (12) dL_call_1 (by rw [hc39]; rfl) (by decide) (off := 161) rfl (tgt := 162) (by decide) ?_
                            refine j_aload_n (pc := 162) C dL_call_162 rfl ?_
                            refine j_iload_n (pc := 163) C dL_call_163 rfl ?_
                            refine j_callQW (pc := 164) (κ := ks9 κ 0) (κ1 := ks9 κ 1) (c := 1) C rfl dL_call_164 lw_L_137 rfl (Nat.le_of_ble_eq_true rfl) (Nat.le_of_ble_eq_true rfl) (by decide) (ks_add rfl) (lq_le hk (by omega)) (fun l hl o ho => sp_L_tryEmpty hl ho) (fun v38 M37 => ?_)
                            exact j_ireturn (pc := 167) C rfl dL_call_167 (lq_end hk (by omega))
                          · refine j_ite (fun hc42 => ?_) (fun hc42 => ?_)
                            · refine j_tsIn (pc := 1) C (13) dL_call_1 (by rw [hc42]; rfl) (by decide) (off := 167) rfl (tgt := 168) (by decide) ?_
                              refine j_aload_n (pc := 168) C dL_call_168 rfl ?_
                              refine j_iload_n (pc := 169) C dL_call_169 rfl ?_
                              refine j_iload_n (pc := 170) C dL_call_170 rfl ?_
                              refine j_callQW (pc := 171) (κ := ks9 κ 0) (κ1 := ks9 κ 1) (c := 1) C rfl dL_call_171 lw_L_140 rfl (Nat.le_of_ble_eq_true rfl) (Nat.le_of_ble_eq_true rfl) (by decide) (ks_add rfl) (lq_le hk (by omega)) (fun l hl o ho => sp_L_tryThrough hl ho) (fun v41 M40 => ?_)
                              exact j_ireturn (pc := 174) C rfl dL_call_174 (lq_end hk (by omega))
                            · refine j_ite (fun hc45 => ?_) (fun hc45 => ?_)
                              · refine j_tsIn (pc := 1) C (14) dL_call_1 (by rw [hc45]; rfl) (by decide) (off := 174) rfl (tgt := 175) (by decide) ?_
                                refine j_aload_n (pc := 175) C dL_call_175 rfl ?_
                                refine j_iload_n (pc := 176) C dL_call_176 rfl ?_
                                refine j_callQW (pc := 177) (κ := ks9 κ 0) (κ1 := ks9 κ 1) (c := 1) C rfl dL_call_177 lw_L_143 rfl (Nat.le_of_ble_eq_true rfl) (Nat.le_of_ble_eq_true rfl) (by decide) (ks_add rfl) (lq_le hk (by omega)) (fun l hl o ho => sp_L_tryBest hl ho) (fun v44 M43 => ?_)
                                exact j_ireturn (pc := 180) C rfl dL_call_180 (lq_end hk (by omega))
                              · refine j_ite (fun hc48 => ?_) (fun hc48 => ?_)
                                · refine j_tsIn (pc := 1) C (15) dL_call_1 (by rw [hc48]; rfl) (by decide) (off := 180) rfl (tgt := 181) (by decide) ?_
                                  refine j_aload_n (pc := 181) C dL_call_181 rfl ?_
                                  refine j_iload_n (pc := 182) C dL_call_182 rfl ?_
                                  refine j_iload_n (pc := 183) C dL_call_183 rfl ?_
                                  refine j_callQW (pc := 184) (κ := ks9 κ 0) (κ1 := ks9 κ 1) (c := 1) C rfl dL_call_184 lw_L_146 rfl (Nat.le_of_ble_eq_true rfl) (Nat.le_of_ble_eq_true rfl) (by decide) (ks_add rfl) (lq_le hk (by omega)) (fun l hl o ho => sp_L_tryComing hl ho) (fun v47 M46 => ?_)
                                  exact j_ireturn (pc := 187) C rfl dL_call_187 (lq_end hk (by omega))
                                · refine j_ite (fun hc51 => ?_) (fun hc51 => ?_)
                                  · refine j_tsIn (pc := 1) C (16) dL_call_1 (by rw [hc51]; rfl) (by decide) (off := 187) rfl (tgt := 188) (by decide) ?_
                                    refine j_aload_n (pc := 188) C dL_call_188 rfl ?_
                                    refine j_iload_n (pc := 189) C dL_call_189 rfl ?_
                                    refine j_callQW (pc := 190) (κ := ks9 κ 0) (κ1 := ks9 κ 1) (c := 1) C rfl dL_call_190 lw_L_149 rfl (Nat.le_of_ble_eq_true rfl) (Nat.le_of_ble_eq_true rfl) (by decide) (ks_add rfl) (lq_le hk (by omega)) (fun l hl o ho => sp_L_tryHits hl ho) (fun v50 M49 => ?_)
                                    exact j_ireturn (pc := 193) C rfl dL_call_193 (lq_end hk (by omega))
                                  · refine j_ite (fun hc54 => ?_) (fun hc54 => ?_)
                                    · refine j_tsIn (pc := 1) C (17) dL_call_1 (by rw [hc54]; rfl) (by decide) (off := 193) rfl (tgt := 194) (by decide) ?_
                                      refine j_aload_n (pc := 194) C dL_call_194 rfl ?_
                                      refine j_iload_n (pc := 195) C dL_call_195 rfl ?_
                                      refine j_callQW (pc := 196) (κ := ks9 κ 0) (κ1 := ks9 κ 1) (c := 1) C rfl dL_call_196 lw_L_152 rfl (Nat.le_of_ble_eq_true rfl) (Nat.le_of_ble_eq_true rfl) (by decide) (ks_add rfl) (lq_le hk (by omega)) (fun l hl o ho => sp_L_tryKeep hl ho) (fun v53 M52 => ?_)
                                      exact j_ireturn (pc := 199) C rfl dL_call_199 (lq_end hk (by omega))
                                    · refine j_tsOut (pc := 1) C dL_call_1 (by have qhc3 := ne9 (k := 0) hc3 rfl; have qhc6 := ne9 (k := 1) hc6 rfl; have qhc9 := ne9 (k := 2) hc9 rfl; have qhc12 := ne9 (k := 3) hc12 rfl; have qhc15 := ne9 (k := 4) hc15 rfl; have qhc18 := ne9 (k := 5) hc18 rfl; have qhc21 := ne9 (k := 6) hc21 rfl; have qhc24 := ne9 (k := 7) hc24 rfl; have qhc27 := ne9 (k := 8) hc27 rfl; have qhc30 := ne9 (k := 9) hc30 rfl; have qhc33 := ne9 (k := 10) hc33 rfl; have qhc36 := ne9 (k := 11) hc36 rfl; have qhc39 := ne9 (k := 12) hc39 rfl; have qhc42 := ne9 (k := 13) hc42 rfl; have qhc45 := ne9 (k := 14) hc45 rfl; have qhc48 := ne9 (k := 15) hc48 rfl; have qhc51 := ne9 (k := 16) hc51 rfl; have qhc54 := ne9 (k := 17) hc54 rfl; omega) (tgt := 200) (by decide) ?_
                                      refine j_aload_n (pc := 200) C dL_call_200 rfl ?_
                                      refine j_iload_n (pc := 201) C dL_call_201 rfl ?_
                                      refine j_callQW (pc := 202) (κ := ks9 κ 0) (κ1 := ks9 κ 1) (c := 1) C rfl dL_call_202 lw_L_155 rfl (Nat.le_of_ble_eq_true rfl) (Nat.le_of_ble_eq_true rfl) (by decide) (ks_add rfl) (lq_le hk (by omega)) (fun l hl o ho => sp_L_tryBack hl ho) (fun v56 M55 => ?_)
                                      exact j_ireturn (pc := 205) C rfl dL_call_205 (lq_end hk (by omega))
def f_L_call (z : Sh9) (a0 : Nat) (a1 : Int32) (a2 : Int32) (a3 : Int32) (a4 : Int32) (M : Mem9) : Re9 := f_L_call_b0 z a0 a1 a2 a3 a4 M
theorem sp_L_call {l : Launch} {z : Sh9} {N : Nv9} {a0 : Nat} {a1 : Int32} {a2 : Int32} {a3 : Int32} {a4 : Int32} {M : Mem9} {o : Out9 × Mem9} (hl : l.stackTraces = false) (h : f_L_call z a0 a1 a2 a3 a4 M = some o) : Sp9 l z N yL_call (Cond.code yL_call cL_call 5 (some .int)) 10 [.ref a0, .int a1, .int a2, .int a3, .int a4] M (1, 6 * 1) o :=
  sp9_ofQ (rk := 1) (own := RL) (c9 := 1) (by decide +kernel) rfl (Or.inr (Or.inl ⟨rfl, rfl⟩)) hl (Nat.le_of_ble_eq_true rfl) (fun X C => t_L_call_b0 (κ := (0, 0)) C ⟨Nat.le_of_eq (Nat.zero_add _), Nat.le_of_eq (Nat.zero_add _)⟩ a0 a1 a2 a3 a4 M) h
def f_L_act_b155 (z : Sh9)  (s0 : Int32) (s1 : Int32) (s2 : Nat) (M : Mem9) : Re9 :=
  (bi9 (f_L_loops z s2 s1 s0 M) fun v52 M51 => (ri9 v52 M51))
set_option maxRecDepth 20000 in
set_option maxHeartbeats 4000000 in
theorem t_L_act_b155 {z : Sh9} {N : Nv9} {X : Cx9} {out : Out9 × Mem9} {κ : Ka9} (C : OK9 z N X out 4 (2, 6 * 2) cL_act RL 11 1 [])  (hk : lq9 κ (1) (2, 6 * 2)) (s0 : Int32) (s1 : Int32) (s2 : Nat) (M : Mem9) : J9 z N X out 4 155 [] [.int s0, .int s1, .ref s2] M κ (f_L_act_b155 z  s0 s1 s2 M) := by
  refine j_ks0 ?_
  refine j_callQW (pc := 155) (κ := ks9 κ 0) (κ1 := ks9 κ 1) (c := 1) C rfl dL_act_155 lw_L_168 rfl (Nat.le_of_ble_eq_true rfl) (Nat.le_of_ble_eq_true rfl) (by decide) (ks_add rfl) (lq_le hk (by omega)) (fun l hl o ho => sp_L_loops hl ho) (fun v52 M51 => ?_)
  exact j_ireturn (pc := 158) C rfl dL_act_158 (lq_end hk (by omega))
def f_L_act_b135 (z : Sh9)  (s0 : Int32) (s1 : Int32) (s2 : Int32) (s3 : Int32) (s4 : Nat) (M : Mem9) : Re9 :=
  (bi9 (f_L_comes z s4 s3 s2 s1 s0 M) fun v57 M56 => (ri9 v57 M56))
set_option maxRecDepth 20000 in
set_option maxHeartbeats 4000000 in
theorem t_L_act_b135 {z : Sh9} {N : Nv9} {X : Cx9} {out : Out9 × Mem9} {κ : Ka9} (C : OK9 z N X out 4 (2, 6 * 2) cL_act RL 11 1 [])  (hk : lq9 κ (1) (2, 6 * 2)) (s0 : Int32) (s1 : Int32) (s2 : Int32) (s3 : Int32) (s4 : Nat) (M : Mem9) : J9 z N X out 4 135 [] [.int s0, .int s1, .int s2, .int s3, .ref s4] M κ (f_L_act_b135 z  s0 s1 s2 s3 s4 M) := by
  refine j_ks0 ?_
  refine j_callQW (pc := 135) (κ := ks9 κ 0) (κ1 := ks9 κ 1) (c := 1) C rfl dL_act_135 lw_L_164 rfl (Nat.le_of_ble_eq_true rfl) (Nat.le_of_ble_eq_true rfl) (by decide) (ks_add rfl) (lq_le hk (by omega)) (fun l hl o ho => sp_L_comes hl ho) (fun v57 M56 => ?_)
  exact j_ireturn (pc := 138) C rfl dL_act_138 (lq_end hk (by omega))
def f_L_act_b120 (z : Sh9)  (x1 : Int32) (s0 : Int32) (s1 : Int32) (s2 : Int32) (s3 : Nat) (M : Mem9) : Re9 :=
  ((dv9 x1 (2112 : Int32)).bind fun v53 => ((rm9 v53 (3 : Int32)).bind fun v54 => (if v54 = 0 then (f_L_act_b135 z  (1 : Int32) s0 s1 s2 s3 M) else (f_L_act_b135 z  (0 : Int32) s0 s1 s2 s3 M))))
set_option maxRecDepth 20000 in
set_option maxHeartbeats 4000000 in
theorem t_L_act_b120 {z : Sh9} {N : Nv9} {X : Cx9} {out : Out9 × Mem9} {κ : Ka9} (C : OK9 z N X out 4 (2, 6 * 2) cL_act RL 11 1 [])  (hk : lq9 κ (1) (2, 6 * 2)) (x1 : Int32) (s0 : Int32) (s1 : Int32) (s2 : Int32) (s3 : Nat) (M : Mem9) : J9 z N X out 4 120 [(1, .int x1)] [.int s0, .int s1, .int s2, .ref s3] M κ (f_L_act_b120 z  x1 s0 s1 s2 s3 M) := by
  refine j_ks0 ?_
  refine j_iload_n (pc := 120) C dL_act_120 rfl ?_
  refine j_sipush (pc := 121) C dL_act_121 (v := 2112) rfl ?_
  refine j_idiv (pc := 124) C dL_act_124 (fun v53 => ?_)
  refine j_iconst (pc := 125) C dL_act_125 (v := 3) rfl ?_
  refine j_irem (pc := 126) C dL_act_126 (fun v54 => ?_)
  refine j_if_ne (pc := 127) C dL_act_127 (tgt := 134) (by decide) (fun hc55 => ?_) (fun hc55 => ?_)
  · refine j_iconst (pc := 134) C dL_act_134 (v := 0) rfl ?_
    refine j_loc [] rfl ?_
    exact t_L_act_b135 (κ := ks9 κ 0) C  (lq_st hk (by omega)) (0 : Int32) s0 s1 s2 s3 M
  · refine j_iconst (pc := 130) C dL_act_130 (v := 1) rfl ?_
    refine j_goto (pc := 131) C dL_act_131 (tgt := 135) (by decide) ?_
    refine j_loc [] rfl ?_
    exact t_L_act_b135 (κ := ks9 κ 0) C  (lq_st hk (by omega)) (1 : Int32) s0 s1 s2 s3 M
def f_L_act_b94 (z : Sh9)  (x0 : Nat) (x1 : Int32) (x3 : Int32) (M : Mem9) : Re9 :=
  ((dv9 x1 (48 : Int32)).bind fun v46 => ((rm9 v46 (11 : Int32)).bind fun v47 => ((dv9 x1 (528 : Int32)).bind fun v48 => ((rm9 v48 (4 : Int32)).bind fun v49 => (if v49 = 0 then (f_L_act_b120 z  x1 (1 : Int32) ((2 : Int32) + v47) x3 x0 M) else (f_L_act_b120 z  x1 (0 : Int32) ((2 : Int32) + v47) x3 x0 M))))))
set_option maxRecDepth 20000 in
set_option maxHeartbeats 4000000 in
theorem t_L_act_b94 {z : Sh9} {N : Nv9} {X : Cx9} {out : Out9 × Mem9} {κ : Ka9} (C : OK9 z N X out 4 (2, 6 * 2) cL_act RL 11 1 [])  (hk : lq9 κ (1) (2, 6 * 2)) (x0 : Nat) (x1 : Int32) (x3 : Int32) (M : Mem9) : J9 z N X out 4 94 [(0, .ref x0), (1, .int x1), (3, .int x3)] [] M κ (f_L_act_b94 z  x0 x1 x3 M) := by
  refine j_ks0 ?_
  refine j_aload_n (pc := 94) C dL_act_94 rfl ?_
  refine j_iload_n (pc := 95) C dL_act_95 rfl ?_
  refine j_iconst (pc := 96) C dL_act_96 (v := 2) rfl ?_
  refine j_iload_n (pc := 97) C dL_act_97 rfl ?_
  refine j_bipush (pc := 98) C dL_act_98 (v := 48) rfl ?_
  refine j_idiv (pc := 100) C dL_act_100 (fun v46 => ?_)
  refine j_bipush (pc := 101) C dL_act_101 (v := 11) rfl ?_
  refine j_irem (pc := 103) C dL_act_103 (fun v47 => ?_)
  refine j_iadd (pc := 104) C dL_act_104 ?_
  refine j_iload_n (pc := 105) C dL_act_105 rfl ?_
  refine j_sipush (pc := 106) C dL_act_106 (v := 528) rfl ?_
  refine j_idiv (pc := 109) C dL_act_109 (fun v48 => ?_)
  refine j_iconst (pc := 110) C dL_act_110 (v := 4) rfl ?_
  refine j_irem (pc := 111) C dL_act_111 (fun v49 => ?_)
  refine j_if_ne (pc := 112) C dL_act_112 (tgt := 119) (by decide) (fun hc50 => ?_) (fun hc50 => ?_)
  · refine j_iconst (pc := 119) C dL_act_119 (v := 0) rfl ?_
    refine j_loc [1] rfl ?_
    exact t_L_act_b120 (κ := ks9 κ 0) C  (lq_st hk (by omega)) x1 (0 : Int32) ((2 : Int32) + v47) x3 x0 M
  · refine j_iconst (pc := 115) C dL_act_115 (v := 1) rfl ?_
    refine j_goto (pc := 116) C dL_act_116 (tgt := 120) (by decide) ?_
    refine j_loc [1] rfl ?_
    exact t_L_act_b120 (κ := ks9 κ 0) C  (lq_st hk (by omega)) x1 (1 : Int32) ((2 : Int32) + v47) x3 x0 M
def f_L_act_b0 (z : Sh9)  (x0 : Nat) (x1 : Int32) (M : Mem9) : Re9 :=
  (bi9 (f_L_call z x0 (2 : Int32) (0 : Int32) (0 : Int32) (0 : Int32) M) fun v2 M1 => ((dv9 x1 (16 : Int32)).bind fun v3 => ((rm9 v3 v2).bind fun v4 => ((rm9 x1 (16 : Int32)).bind fun v5 => (if v5 = (0 : Int32) then (bi9 (f_L_call z x0 (7 : Int32) (0 : Int32) (0 : Int32) (0 : Int32) M1) fun v7 M6 => (ri9 v7 M6)) else (if v5 = (1 : Int32) then (f_L_act_b94 z  x0 x1 v4 M1) else (if v5 = (2 : Int32) then (f_L_act_b94 z  x0 x1 v4 M1) else (if v5 = (3 : Int32) then (f_L_act_b94 z  x0 x1 v4 M1) else (if v5 = (4 : Int32) then (f_L_act_b94 z  x0 x1 v4 M1) else (if v5 = (5 : Int32) then (f_L_act_b94 z  x0 x1 v4 M1) else (if v5 = (6 : Int32) then ((dv9 x1 (48 : Int32)).bind fun v14 => ((rm9 v14 (3 : Int32)).bind fun v15 => (if v15 ≤ 0 then (f_L_act_b155 z  (0 : Int32) v4 x0 M1) else (f_L_act_b155 z  (1 : Int32) v4 x0 M1)))) else (if v5 = (7 : Int32) then (bi9 (f_L_call z x0 (8 : Int32) v4 (0 : Int32) (0 : Int32) M1) fun v19 M18 => (ri9 v19 M18)) else (if v5 = (8 : Int32) then ((dv9 x1 (16 : Int32)).bind fun v21 => ((rm9 v21 (3 : Int32)).bind fun v22 => ((dv9 x1 (48 : Int32)).bind fun v23 => ((rm9 v23 (24 : Int32)).bind fun v24 => (bi9 (f_L_call z x0 (10 : Int32) v22 v24 (0 : Int32) M1) fun v26 M25 => (ri9 v26 M25)))))) else (if v5 = (9 : Int32) then (if (2 : Int32) ≤ v2 then (bi9 (f_L_call z x0 (11 : Int32) (0 : Int32) (0 : Int32) (0 : Int32) M1) fun v29 M28 => (ri9 v29 M28)) else (ri9 (-1 : Int32) M1)) else (if v5 = (10 : Int32) then ((dv9 x1 (16 : Int32)).bind fun v32 => ((rm9 v32 (2 : Int32)).bind fun v33 => (bi9 (f_L_call z x0 (17 : Int32) v33 (0 : Int32) (0 : Int32) M1) fun v35 M34 => (ri9 v35 M34)))) else (if v5 = (11 : Int32) then ((dv9 x1 (16 : Int32)).bind fun v37 => ((rm9 v37 (2 : Int32)).bind fun v38 => (bi9 (f_L_call z x0 (18 : Int32) v38 (0 : Int32) (0 : Int32) M1) fun v40 M39 => (ri9 v40 M39)))) else ((dv9 x1 (16 : Int32)).bind fun v42 => ((rm9 v42 (40 : Int32)).bind fun v43 => (bi9 (f_L_call z x0 (9 : Int32) ((1 : Int32) + v43) (0 : Int32) (0 : Int32) M1) fun v45 M44 => (ri9 v45 M44))))))))))))))))))))
set_option maxRecDepth 20000 in
set_option maxHeartbeats 4000000 in
theorem t_L_act_b0 {z : Sh9} {N : Nv9} {X : Cx9} {out : Out9 × Mem9} {κ : Ka9} (C : OK9 z N X out 4 (2, 6 * 2) cL_act RL 11 1 [])  (hk : lq9 κ (2) (2, 6 * 2)) (x0 : Nat) (x1 : Int32) (M : Mem9) : J9 z N X out 4 0 [(0, .ref x0), (1, .int x1)] [] M κ (f_L_act_b0 z  x0 x1 M) := by
  refine j_ks0 ?_
  refine j_aload_n (pc := 0) C dL_act_0 rfl ?_
  refine j_iconst (pc := 1) C dL_act_1 (v := 2) rfl ?_
  refine j_iconst (pc := 2) C dL_act_2 (v := 0) rfl ?_
  refine j_iconst (pc := 3) C dL_act_3 (v := 0) rfl ?_
  refine j_iconst (pc := 4) C dL_act_4 (v := 0) rfl ?_
  refine j_callQS (pc := 5) (κ := ks9 κ 0) (κ1 := ks9 κ 1) (c := 1) C rfl dL_act_5 ls_L_160 rfl (Nat.le_of_ble_eq_true rfl) (Nat.le_of_ble_eq_true rfl) (by decide) (ks_add rfl) (lq_le hk (by omega)) (fun l hl o ho => sp_L_call hl ho) (fun v2 M1 => ?_)
  refine j_istore_n (pc := 8) C dL_act_8 (Nat.le_of_ble_eq_true rfl) (ls' := [(2, .int v2), (0, .ref x0), (1, .int x1)]) rfl ?_
  refine j_iload_n (pc := 9) C dL_act_9 rfl ?_
  refine j_bipush (pc := 10) C dL_act_10 (v := 16) rfl ?_
  refine j_idiv (pc := 12) C dL_act_12 (fun v3 => ?_)
  refine j_iload_n (pc := 13) C dL_act_13 rfl ?_
  refine j_irem (pc := 14) C dL_act_14 (fun v4 => ?_)
  refine j_istore_n (pc := 15) C dL_act_15 (Nat.le_of_ble_eq_true rfl) (ls' := [(3, .int v4), (2, .int v2), (0, .ref x0), (1, .int x1)]) rfl ?_
  refine j_iload_n (pc := 16) C dL_act_16 rfl ?_
  refine j_bipush (pc := 17) C dL_act_17 (v := 16) rfl ?_
  refine j_irem (pc := 19) C dL_act_19 (fun v5 => ?_)
  refine j_ite (fun hc8 => ?_) (fun hc8 => ?_)
  · refine j_tsIn (pc := 20) C (0) dL_act_20 (by rw [hc8]; rfl) (by decide) (off := 64) rfl (tgt := 84) (by decide) ?_
    refine j_aload_n (pc := 84) C dL_act_84 rfl ?_
    refine j_bipush (pc := 85) C dL_act_85 (v := 7) rfl ?_
    refine j_iconst (pc := 87) C dL_act_87 (v := 0) rfl ?_
    refine j_iconst (pc := 88) C dL_act_88 (v := 0) rfl ?_
    refine j_iconst (pc := 89) C dL_act_89 (v := 0) rfl ?_
    refine j_callQS (pc := 90) (κ := ks9 κ 1) (κ1 := ks9 κ 2) (c := 1) C rfl dL_act_90 ls_L_160 rfl (Nat.le_of_ble_eq_true rfl) (Nat.le_of_ble_eq_true rfl) (by decide) (ks_add rfl) (lq_le hk (by omega)) (fun l hl o ho => sp_L_call hl ho) (fun v7 M6 => ?_)
    exact j_ireturn (pc := 93) C rfl dL_act_93 (lq_end hk (by omega))
  · refine j_ite (fun hc9 => ?_) (fun hc9 => ?_)
    · refine j_tsIn (pc := 20) C (1) dL_act_20 (by rw [hc9]; rfl) (by decide) (off := 74) rfl (tgt := 94) (by decide) ?_
      refine j_loc [2, 3, 0] rfl ?_
      exact t_L_act_b94 (κ := ks9 κ 1) C  (lq_st hk (by omega)) x0 x1 v4 M1
    · refine j_ite (fun hc10 => ?_) (fun hc10 => ?_)
      · refine j_tsIn (pc := 20) C (2) dL_act_20 (by rw [hc10]; rfl) (by decide) (off := 74) rfl (tgt := 94) (by decide) ?_
        refine j_loc [2, 3, 0] rfl ?_
        exact t_L_act_b94 (κ := ks9 κ 1) C  (lq_st hk (by omega)) x0 x1 v4 M1
      · refine j_ite (fun hc11 => ?_) (fun hc11 => ?_)
        · refine j_tsIn (pc := 20) C (3) dL_act_20 (by rw [hc11]; rfl) (by decide) (off := 74) rfl (tgt := 94) (by decide) ?_
          refine j_loc [2, 3, 0] rfl ?_
          exact t_L_act_b94 (κ := ks9 κ 1) C  (lq_st hk (by omega)) x0 x1 v4 M1
        · refine j_ite (fun hc12 => ?_) (fun hc12 => ?_)
          · refine j_tsIn (pc := 20) C (4) dL_act_20 (by rw [hc12]; rfl) (by decide) (off := 74) rfl (tgt := 94) (by decide) ?_
            refine j_loc [2, 3, 0] rfl ?_
            exact t_L_act_b94 (κ := ks9 κ 1) C  (lq_st hk (by omega)) x0 x1 v4 M1
          · refine j_ite (fun hc13 => ?_) (fun hc13 => ?_)
            · refine j_tsIn (pc := 20) C (5) dL_act_20 (by rw [hc13]; rfl) (by decide) (off := 74) rfl (tgt := 94) (by decide) ?_
              refine j_loc [2, 3, 0] rfl ?_
              exact t_L_act_b94 (κ := ks9 κ 1) C  (lq_st hk (by omega)) x0 x1 v4 M1
            · refine j_ite (fun hc17 => ?_) (fun hc17 => ?_)
              · refine j_tsIn (pc := 20) C (6) dL_act_20 (by rw [hc17]; rfl) (by decide) (off := 119) rfl (tgt := 139) (by decide) ?_
                refine j_aload_n (pc := 139) C dL_act_139 rfl ?_
                refine j_iload_n (pc := 140) C dL_act_140 rfl ?_
                refine j_iload_n (pc := 141) C dL_act_141 rfl ?_
                refine j_bipush (pc := 142) C dL_act_142 (v := 48) rfl ?_
                refine j_idiv (pc := 144) C dL_act_144 (fun v14 => ?_)
                refine j_iconst (pc := 145) C dL_act_145 (v := 3) rfl ?_
                refine j_irem (pc := 146) C dL_act_146 (fun v15 => ?_)
                refine j_if_le (pc := 147) C dL_act_147 (tgt := 154) (by decide) (fun hc16 => ?_) (fun hc16 => ?_)
                · refine j_iconst (pc := 154) C dL_act_154 (v := 0) rfl ?_
                  refine j_loc [] rfl ?_
                  exact t_L_act_b155 (κ := ks9 κ 1) C  (lq_st hk (by omega)) (0 : Int32) v4 x0 M1
                · refine j_iconst (pc := 150) C dL_act_150 (v := 1) rfl ?_
                  refine j_goto (pc := 151) C dL_act_151 (tgt := 155) (by decide) ?_
                  refine j_loc [] rfl ?_
                  exact t_L_act_b155 (κ := ks9 κ 1) C  (lq_st hk (by omega)) (1 : Int32) v4 x0 M1
              · refine j_ite (fun hc20 => ?_) (fun hc20 => ?_)
                · refine j_tsIn (pc := 20) C (7) dL_act_20 (by rw [hc20]; rfl) (by decide) (off := 139) rfl (tgt := 159) (by decide) ?_
                  refine j_aload_n (pc := 159) C dL_act_159 rfl ?_
                  refine j_bipush (pc := 160) C dL_act_160 (v := 8) rfl ?_
                  refine j_iload_n (pc := 162) C dL_act_162 rfl ?_
                  refine j_iconst (pc := 163) C dL_act_163 (v := 0) rfl ?_
                  refine j_iconst (pc := 164) C dL_act_164 (v := 0) rfl ?_
                  refine j_callQS (pc := 165) (κ := ks9 κ 1) (κ1 := ks9 κ 2) (c := 1) C rfl dL_act_165 ls_L_160 rfl (Nat.le_of_ble_eq_true rfl) (Nat.le_of_ble_eq_true rfl) (by decide) (ks_add rfl) (lq_le hk (by omega)) (fun l hl o ho => sp_L_call hl ho) (fun v19 M18 => ?_)
                  exact j_ireturn (pc := 168) C rfl dL_act_168 (lq_end hk (by omega))
                · refine j_ite (fun hc27 => ?_) (fun hc27 => ?_)
                  · refine j_tsIn (pc := 20) C (8) dL_act_20 (by rw [hc27]; rfl) (by decide) (off := 149) rfl (tgt := 169) (by decide) ?_
                    refine j_aload_n (pc := 169) C dL_act_169 rfl ?_
                    refine j_bipush (pc := 170) C dL_act_170 (v := 10) rfl ?_
                    refine j_iload_n (pc := 172) C dL_act_172 rfl ?_
                    refine j_bipush (pc := 173) C dL_act_173 (v := 16) rfl ?_
                    refine j_idiv (pc := 175) C dL_act_175 (fun v21 => ?_)
                    refine j_iconst (pc := 176) C dL_act_176 (v := 3) rfl ?_
                    refine j_irem (pc := 177) C dL_act_177 (fun v22 => ?_)
                    refine j_iload_n (pc := 178) C dL_act_178 rfl ?_
                    refine j_bipush (pc := 179) C dL_act_179 (v := 48) rfl ?_
                    refine j_idiv (pc := 181) C dL_act_181 (fun v23 => ?_)
                    refine j_bipush (pc := 182) C dL_act_182 (v := 24) rfl ?_
                    refine j_irem (pc := 184) C dL_act_184 (fun v24 => ?_)
                    refine j_iconst (pc := 185) C dL_act_185 (v := 0) rfl ?_
                    refine j_callQS (pc := 186) (κ := ks9 κ 1) (κ1 := ks9 κ 2) (c := 1) C rfl dL_act_186 ls_L_160 rfl (Nat.le_of_ble_eq_true rfl) (Nat.le_of_ble_eq_true rfl) (by decide) (ks_add rfl) (lq_le hk (by omega)) (fun l hl o ho => sp_L_call hl ho) (fun v26 M25 => ?_)
                    exact j_ireturn (pc := 189) C rfl dL_act_189 (lq_end hk (by omega))
                  · refine j_ite (fun hc31 => ?_) (fun hc31 => ?_)
                    · refine j_tsIn (pc := 20) C (9) dL_act_20 (by rw [hc31]; rfl) (by decide) (off := 170) rfl (tgt := 190) (by decide) ?_
                      refine j_iload_n (pc := 190) C dL_act_190 rfl ?_
                      refine j_iconst (pc := 191) C dL_act_191 (v := 2) rfl ?_
                      refine j_icmp_ge (pc := 192) C dL_act_192 (tgt := 199) (by decide) (fun hc30 => ?_) (fun hc30 => ?_)
                      · refine j_aload_n (pc := 199) C dL_act_199 rfl ?_
                        refine j_bipush (pc := 200) C dL_act_200 (v := 11) rfl ?_
                        refine j_iconst (pc := 202) C dL_act_202 (v := 0) rfl ?_
                        refine j_iconst (pc := 203) C dL_act_203 (v := 0) rfl ?_
                        refine j_iconst (pc := 204) C dL_act_204 (v := 0) rfl ?_
                        refine j_callQS (pc := 205) (κ := ks9 κ 1) (κ1 := ks9 κ 2) (c := 1) C rfl dL_act_205 ls_L_160 rfl (Nat.le_of_ble_eq_true rfl) (Nat.le_of_ble_eq_true rfl) (by decide) (ks_add rfl) (lq_le hk (by omega)) (fun l hl o ho => sp_L_call hl ho) (fun v29 M28 => ?_)
                        exact j_ireturn (pc := 208) C rfl dL_act_208 (lq_end hk (by omega))
                      · refine j_iconst (pc := 195) C dL_act_195 (v := -1) rfl ?_
                        refine j_goto (pc := 196) C dL_act_196 (tgt := 208) (by decide) ?_
                        exact j_ireturn (pc := 208) C rfl dL_act_208 (lq_end hk (by omega))
                    · refine j_ite (fun hc36 => ?_) (fun hc36 => ?_)
                      · refine j_tsIn (pc := 20) C (10) dL_act_20 (by rw [hc36]; rfl) (by decide) (off := 189) rfl (tgt := 209) (by decide) ?_
                        refine j_aload_n (pc := 209) C dL_act_209 rfl ?_
                        refine j_bipush (pc := 210) C dL_act_210 (v := 17) rfl ?_
                        refine j_iload_n (pc := 212) C dL_act_212 rfl ?_
                        refine j_bipush (pc := 213) C dL_act_213 (v := 16) rfl ?_
                        refine j_idiv (pc := 215) C dL_act_215 (fun v32 => ?_)
                        refine j_iconst (pc := 216) C dL_act_216 (v := 2) rfl ?_
                        refine j_irem (pc := 217) C dL_act_217 (fun v33 => ?_)
                        refine j_iconst (pc := 218) C dL_act_218 (v := 0) rfl ?_
                        refine j_iconst (pc := 219) C dL_act_219 (v := 0) rfl ?_
                        refine j_callQS (pc := 220) (κ := ks9 κ 1) (κ1 := ks9 κ 2) (c := 1) C rfl dL_act_220 ls_L_160 rfl (Nat.le_of_ble_eq_true rfl) (Nat.le_of_ble_eq_true rfl) (by decide) (ks_add rfl) (lq_le hk (by omega)) (fun l hl o ho => sp_L_call hl ho) (fun v35 M34 => ?_)
                        exact j_ireturn (pc := 223) C rfl dL_act_223 (lq_end hk (by omega))
                      · refine j_ite (fun hc41 => ?_) (fun hc41 => ?_)
                        · refine j_tsIn (pc := 20) C (11) dL_act_20 (by rw [hc41]; rfl) (by decide) (off := 204) rfl (tgt := 224) (by decide) ?_
                          refine j_aload_n (pc := 224) C dL_act_224 rfl ?_
                          refine j_bipush (pc := 225) C dL_act_225 (v := 18) rfl ?_
                          refine j_iload_n (pc := 227) C dL_act_227 rfl ?_
                          refine j_bipush (pc := 228) C dL_act_228 (v := 16) rfl ?_
                          refine j_idiv (pc := 230) C dL_act_230 (fun v37 => ?_)
                          refine j_iconst (pc := 231) C dL_act_231 (v := 2) rfl ?_
                          refine j_irem (pc := 232) C dL_act_232 (fun v38 => ?_)
                          refine j_iconst (pc := 233) C dL_act_233 (v := 0) rfl ?_
                          refine j_iconst (pc := 234) C dL_act_234 (v := 0) rfl ?_
                          refine j_callQS (pc := 235) (κ := ks9 κ 1) (κ1 := ks9 κ 2) (c := 1) C rfl dL_act_235 ls_L_160 rfl (Nat.le_of_ble_eq_true rfl) (Nat.le_of_ble_eq_true rfl) (by decide) (ks_add rfl) (lq_le hk (by omega)) (fun l hl o ho => sp_L_call hl ho) (fun v40 M39 => ?_)
                          exact j_ireturn (pc := 238) C rfl dL_act_238 (lq_end hk (by omega))
                        · refine j_tsOut (pc := 20) C dL_act_20 (by have qhc8 := ne9 (k := 0) hc8 rfl; have qhc9 := ne9 (k := 1) hc9 rfl; have qhc10 := ne9 (k := 2) hc10 rfl; have qhc11 := ne9 (k := 3) hc11 rfl; have qhc12 := ne9 (k := 4) hc12 rfl; have qhc13 := ne9 (k := 5) hc13 rfl; have qhc17 := ne9 (k := 6) hc17 rfl; have qhc20 := ne9 (k := 7) hc20 rfl; have qhc27 := ne9 (k := 8) hc27 rfl; have qhc31 := ne9 (k := 9) hc31 rfl; have qhc36 := ne9 (k := 10) hc36 rfl; have qhc41 := ne9 (k := 11) hc41 rfl; omega) (tgt := 239) (by decide) ?_
                          refine j_aload_n (pc := 239) C dL_act_239 rfl ?_
                          refine j_bipush (pc := 240) C dL_act_240 (v := 9) rfl ?_
                          refine j_iconst (pc := 242) C dL_act_242 (v := 1) rfl ?_
                          refine j_iload_n (pc := 243) C dL_act_243 rfl ?_
                          refine j_bipush (pc := 244) C dL_act_244 (v := 16) rfl ?_
                          refine j_idiv (pc := 246) C dL_act_246 (fun v42 => ?_)
                          refine j_bipush (pc := 247) C dL_act_247 (v := 40) rfl ?_
                          refine j_irem (pc := 249) C dL_act_249 (fun v43 => ?_)
                          refine j_iadd (pc := 250) C dL_act_250 ?_
                          refine j_iconst (pc := 251) C dL_act_251 (v := 0) rfl ?_
                          refine j_iconst (pc := 252) C dL_act_252 (v := 0) rfl ?_
                          refine j_callQS (pc := 253) (κ := ks9 κ 1) (κ1 := ks9 κ 2) (c := 1) C rfl dL_act_253 ls_L_160 rfl (Nat.le_of_ble_eq_true rfl) (Nat.le_of_ble_eq_true rfl) (by decide) (ks_add rfl) (lq_le hk (by omega)) (fun l hl o ho => sp_L_call hl ho) (fun v45 M44 => ?_)
                          exact j_ireturn (pc := 256) C rfl dL_act_256 (lq_end hk (by omega))
def f_L_act (z : Sh9) (a0 : Nat) (a1 : Int32) (M : Mem9) : Re9 := f_L_act_b0 z a0 a1 M
theorem sp_L_act {l : Launch} {z : Sh9} {N : Nv9} {a0 : Nat} {a1 : Int32} {M : Mem9} {o : Out9 × Mem9} (hl : l.stackTraces = false) (h : f_L_act z a0 a1 M = some o) : Sp9 l z N yL_act (Cond.code yL_act cL_act 4 (some .int)) 11 [.ref a0, .int a1] M (2, 6 * 2) o :=
  sp9_ofQ (rk := 1) (own := RL) (c9 := 2) (by decide +kernel) rfl (Or.inr (Or.inl ⟨rfl, rfl⟩)) hl (Nat.le_of_ble_eq_true rfl) (fun X C => t_L_act_b0 (κ := (0, 0)) C ⟨Nat.le_of_eq (Nat.zero_add _), Nat.le_of_eq (Nat.zero_add _)⟩ a0 a1 M) h
def f_L_alike_b222 (z : Sh9) (r118 : Nat → Nat → Int32 → Int32 → Int32 → Int32 → Mem9 → Re9) (r132 : Nat → Nat → Int32 → Int32 → Int32 → Int32 → Int32 → Mem9 → Re9) (x0 : Nat) (x1 : Nat) (x2 : Int32) (x3 : Int32) (x5 : Int32) (x6 : Int32) (s0 : Int32) (M : Mem9) : Re9 :=
  (r132 x0 x1 x2 x3 s0 x5 (x6 + (1 : Int32)) M)
set_option maxRecDepth 20000 in
set_option maxHeartbeats 4000000 in
theorem t_L_alike_b222 {z : Sh9} {N : Nv9} {X : Cx9} {out : Out9 × Mem9} {κ : Ka9} (C : OK9 z N X out 7 (4163, 6 * 4163) cL_alike RL 11 2 []) {E118 : Nat} {r118 : Nat → Nat → Int32 → Int32 → Int32 → Int32 → Mem9 → Re9} (g118 : 0 ≤ E118) (h118 : ∀ κ2 : Ka9, lq9 κ2 E118 (4163, 6 * 4163) → ∀ (x0 : Nat) (x1 : Nat) (x2 : Int32) (x3 : Int32) (x4 : Int32) (x5 : Int32) (M : Mem9), J9 z N X out 7 118 [(0, .ref x0), (1, .ref x1), (2, .int x2), (3, .int x3), (4, .int x4), (5, .int x5)] [] M κ2 (r118 x0 x1 x2 x3 x4 x5 M)) {E132 : Nat} {r132 : Nat → Nat → Int32 → Int32 → Int32 → Int32 → Int32 → Mem9 → Re9} (g132 : 0 + E118 ≤ E132) (h132 : ∀ κ2 : Ka9, lq9 κ2 E132 (4163, 6 * 4163) → ∀ (x0 : Nat) (x1 : Nat) (x2 : Int32) (x3 : Int32) (x4 : Int32) (x5 : Int32) (x6 : Int32) (M : Mem9), J9 z N X out 7 132 [(0, .ref x0), (1, .ref x1), (2, .int x2), (3, .int x3), (4, .int x4), (5, .int x5), (6, .int x6)] [] M κ2 (r132 x0 x1 x2 x3 x4 x5 x6 M)) (hk : lq9 κ (0 + E132) (4163, 6 * 4163)) (x0 : Nat) (x1 : Nat) (x2 : Int32) (x3 : Int32) (x5 : Int32) (x6 : Int32) (s0 : Int32) (M : Mem9) : J9 z N X out 7 222 [(0, .ref x0), (1, .ref x1), (2, .int x2), (3, .int x3), (5, .int x5), (6, .int x6)] [.int s0] M κ (f_L_alike_b222 z r118 r132 x0 x1 x2 x3 x5 x6 s0 M) := by
  refine j_ks0 ?_
  refine j_istore (pc := 222) C dL_alike_222 (Nat.le_of_ble_eq_true rfl) (ls' := [(4, .int s0), (0, .ref x0), (1, .ref x1), (2, .int x2), (3, .int x3), (5, .int x5), (6, .int x6)]) rfl ?_
  refine j_iinc (pc := 224) C dL_alike_224 rfl (v := (x6 + (1 : Int32))) rfl (Nat.le_of_ble_eq_true rfl) (ls' := [(6, .int (x6 + (1 : Int32))), (4, .int s0), (0, .ref x0), (1, .ref x1), (2, .int x2), (3, .int x3), (5, .int x5)]) rfl ?_
  refine j_goto (pc := 227) C dL_alike_227 (tgt := 132) (by decide) ?_
  refine j_loc [2, 3, 4, 5, 1, 6, 0] rfl ?_
  exact h132 (ks9 κ 0) (lq_st hk (by omega)) x0 x1 x2 x3 s0 x5 (x6 + (1 : Int32)) M
def f_L_alike_b221 (z : Sh9) (r118 : Nat → Nat → Int32 → Int32 → Int32 → Int32 → Mem9 → Re9) (r132 : Nat → Nat → Int32 → Int32 → Int32 → Int32 → Int32 → Mem9 → Re9) (x0 : Nat) (x1 : Nat) (x2 : Int32) (x3 : Int32) (x5 : Int32) (x6 : Int32) (M : Mem9) : Re9 :=
  (f_L_alike_b222 z r118 r132 x0 x1 x2 x3 x5 x6 (0 : Int32) M)
set_option maxRecDepth 20000 in
set_option maxHeartbeats 4000000 in
theorem t_L_alike_b221 {z : Sh9} {N : Nv9} {X : Cx9} {out : Out9 × Mem9} {κ : Ka9} (C : OK9 z N X out 7 (4163, 6 * 4163) cL_alike RL 11 2 []) {E118 : Nat} {r118 : Nat → Nat → Int32 → Int32 → Int32 → Int32 → Mem9 → Re9} (g118 : 0 ≤ E118) (h118 : ∀ κ2 : Ka9, lq9 κ2 E118 (4163, 6 * 4163) → ∀ (x0 : Nat) (x1 : Nat) (x2 : Int32) (x3 : Int32) (x4 : Int32) (x5 : Int32) (M : Mem9), J9 z N X out 7 118 [(0, .ref x0), (1, .ref x1), (2, .int x2), (3, .int x3), (4, .int x4), (5, .int x5)] [] M κ2 (r118 x0 x1 x2 x3 x4 x5 M)) {E132 : Nat} {r132 : Nat → Nat → Int32 → Int32 → Int32 → Int32 → Int32 → Mem9 → Re9} (g132 : 0 + E118 ≤ E132) (h132 : ∀ κ2 : Ka9, lq9 κ2 E132 (4163, 6 * 4163) → ∀ (x0 : Nat) (x1 : Nat) (x2 : Int32) (x3 : Int32) (x4 : Int32) (x5 : Int32) (x6 : Int32) (M : Mem9), J9 z N X out 7 132 [(0, .ref x0), (1, .ref x1), (2, .int x2), (3, .int x3), (4, .int x4), (5, .int x5), (6, .int x6)] [] M κ2 (r132 x0 x1 x2 x3 x4 x5 x6 M)) (hk : lq9 κ (0 + E132) (4163, 6 * 4163)) (x0 : Nat) (x1 : Nat) (x2 : Int32) (x3 : Int32) (x5 : Int32) (x6 : Int32) (M : Mem9) : J9 z N X out 7 221 [(0, .ref x0), (1, .ref x1), (2, .int x2), (3, .int x3), (5, .int x5), (6, .int x6)] [] M κ (f_L_alike_b221 z r118 r132 x0 x1 x2 x3 x5 x6 M) := by
  refine j_ks0 ?_
  refine j_iconst (pc := 221) C dL_alike_221 (v := 0) rfl ?_
  exact t_L_alike_b222 (κ := ks9 κ 0) C g118 h118 g132 h132 (lq_st hk (by omega)) x0 x1 x2 x3 x5 x6 (0 : Int32) M
def f_L_alike_b132 (z : Sh9) (r118 : Nat → Nat → Int32 → Int32 → Int32 → Int32 → Mem9 → Re9) (r132 : Nat → Nat → Int32 → Int32 → Int32 → Int32 → Int32 → Mem9 → Re9) (x0 : Nat) (x1 : Nat) (x2 : Int32) (x3 : Int32) (x4 : Int32) (x5 : Int32) (x6 : Int32) (M : Mem9) : Re9 :=
  (if (8 : Int32) ≤ x6 then (r118 x0 x1 x2 x3 x4 (x5 + (1 : Int32)) M) else (if x4 = 0 then (r118 x0 x1 x2 x3 x4 (x5 + (1 : Int32)) M) else (bi9 (f_L_call z x0 (3 : Int32) x5 x6 (0 : Int32) M) fun v25 M24 => (bi9 (f_L_call z x1 (3 : Int32) x5 x6 (0 : Int32) M24) fun v27 M26 => (if v25 = v27 then (bi9 (f_L_call z x0 (4 : Int32) x5 x6 (1 : Int32) M26) fun v29 M28 => (bi9 (f_L_call z x1 (4 : Int32) x5 x6 (1 : Int32) M28) fun v31 M30 => (if v29 = v31 then ((rm9 x2 (5 : Int32)).bind fun v32 => (bi9 (f_L_call z x0 (4 : Int32) x5 x6 v32 M30) fun v34 M33 => ((rm9 x2 (5 : Int32)).bind fun v35 => (bi9 (f_L_call z x1 (4 : Int32) x5 x6 v35 M33) fun v37 M36 => (if v34 = v37 then (f_L_alike_b222 z r118 r132 x0 x1 x2 x3 x5 x6 (1 : Int32) M36) else (f_L_alike_b221 z r118 r132 x0 x1 x2 x3 x5 x6 M36)))))) else (f_L_alike_b221 z r118 r132 x0 x1 x2 x3 x5 x6 M30)))) else (f_L_alike_b221 z r118 r132 x0 x1 x2 x3 x5 x6 M26))))))
set_option maxRecDepth 20000 in
set_option maxHeartbeats 4000000 in
theorem t_L_alike_b132 {z : Sh9} {N : Nv9} {X : Cx9} {out : Out9 × Mem9} {κ : Ka9} (C : OK9 z N X out 7 (4163, 6 * 4163) cL_alike RL 11 2 []) {E118 : Nat} {r118 : Nat → Nat → Int32 → Int32 → Int32 → Int32 → Mem9 → Re9} (g118 : 0 ≤ E118) (h118 : ∀ κ2 : Ka9, lq9 κ2 E118 (4163, 6 * 4163) → ∀ (x0 : Nat) (x1 : Nat) (x2 : Int32) (x3 : Int32) (x4 : Int32) (x5 : Int32) (M : Mem9), J9 z N X out 7 118 [(0, .ref x0), (1, .ref x1), (2, .int x2), (3, .int x3), (4, .int x4), (5, .int x5)] [] M κ2 (r118 x0 x1 x2 x3 x4 x5 M)) {E132 : Nat} {r132 : Nat → Nat → Int32 → Int32 → Int32 → Int32 → Int32 → Mem9 → Re9} (g132 : 0 + E118 ≤ E132) (h132 : ∀ κ2 : Ka9, lq9 κ2 E132 (4163, 6 * 4163) → ∀ (x0 : Nat) (x1 : Nat) (x2 : Int32) (x3 : Int32) (x4 : Int32) (x5 : Int32) (x6 : Int32) (M : Mem9), J9 z N X out 7 132 [(0, .ref x0), (1, .ref x1), (2, .int x2), (3, .int x3), (4, .int x4), (5, .int x5), (6, .int x6)] [] M κ2 (r132 x0 x1 x2 x3 x4 x5 x6 M)) (hk : lq9 κ (6 + E132) (4163, 6 * 4163)) (x0 : Nat) (x1 : Nat) (x2 : Int32) (x3 : Int32) (x4 : Int32) (x5 : Int32) (x6 : Int32) (M : Mem9) : J9 z N X out 7 132 [(0, .ref x0), (1, .ref x1), (2, .int x2), (3, .int x3), (4, .int x4), (5, .int x5), (6, .int x6)] [] M κ (f_L_alike_b132 z r118 r132 x0 x1 x2 x3 x4 x5 x6 M) := by
  refine j_ks0 ?_
  refine j_iload (pc := 132) C dL_alike_132 rfl ?_
  refine j_bipush (pc := 134) C dL_alike_134 (v := 8) rfl ?_
  refine j_icmp_ge (pc := 136) C dL_alike_136 (tgt := 230) (by decide) (fun hc42 => ?_) (fun hc42 => ?_)
  · refine j_iinc (pc := 230) C dL_alike_230 rfl (v := (x5 + (1 : Int32))) rfl (Nat.le_of_ble_eq_true rfl) (ls' := [(5, .int (x5 + (1 : Int32))), (0, .ref x0), (1, .ref x1), (2, .int x2), (3, .int x3), (4, .int x4), (6, .int x6)]) rfl ?_
    refine j_goto (pc := 233) C dL_alike_233 (tgt := 118) (by decide) ?_
    refine j_loc [1, 2, 3, 4, 5, 0] rfl ?_
    exact h118 (ks9 κ 0) (lq_st hk (by omega)) x0 x1 x2 x3 x4 (x5 + (1 : Int32)) M
  · refine j_iload (pc := 139) C dL_alike_139 rfl ?_
    refine j_if_eq (pc := 141) C dL_alike_141 (tgt := 230) (by decide) (fun hc41 => ?_) (fun hc41 => ?_)
    · refine j_iinc (pc := 230) C dL_alike_230 rfl (v := (x5 + (1 : Int32))) rfl (Nat.le_of_ble_eq_true rfl) (ls' := [(5, .int (x5 + (1 : Int32))), (0, .ref x0), (1, .ref x1), (2, .int x2), (3, .int x3), (4, .int x4), (6, .int x6)]) rfl ?_
      refine j_goto (pc := 233) C dL_alike_233 (tgt := 118) (by decide) ?_
      refine j_loc [1, 2, 3, 4, 5, 0] rfl ?_
      exact h118 (ks9 κ 0) (lq_st hk (by omega)) x0 x1 x2 x3 x4 (x5 + (1 : Int32)) M
    · refine j_aload_n (pc := 144) C dL_alike_144 rfl ?_
      refine j_iconst (pc := 145) C dL_alike_145 (v := 3) rfl ?_
      refine j_iload (pc := 146) C dL_alike_146 rfl ?_
      refine j_iload (pc := 148) C dL_alike_148 rfl ?_
      refine j_iconst (pc := 150) C dL_alike_150 (v := 0) rfl ?_
      refine j_callQS (pc := 151) (κ := ks9 κ 0) (κ1 := ks9 κ 1) (c := 1) C rfl dL_alike_151 ls_L_160 rfl (Nat.le_of_ble_eq_true rfl) (Nat.le_of_ble_eq_true rfl) (by decide) (ks_add rfl) (lq_le hk (by omega)) (fun l hl o ho => sp_L_call hl ho) (fun v25 M24 => ?_)
      refine j_aload_n (pc := 154) C dL_alike_154 rfl ?_
      refine j_iconst (pc := 155) C dL_alike_155 (v := 3) rfl ?_
      refine j_iload (pc := 156) C dL_alike_156 rfl ?_
      refine j_iload (pc := 158) C dL_alike_158 rfl ?_
      refine j_iconst (pc := 160) C dL_alike_160 (v := 0) rfl ?_
      refine j_callQS (pc := 161) (κ := ks9 κ 1) (κ1 := ks9 κ 2) (c := 1) C rfl dL_alike_161 ls_L_160 rfl (Nat.le_of_ble_eq_true rfl) (Nat.le_of_ble_eq_true rfl) (by decide) (ks_add rfl) (lq_le hk (by omega)) (fun l hl o ho => sp_L_call hl ho) (fun v27 M26 => ?_)
      refine j_icmp_ne (pc := 164) C dL_alike_164 (tgt := 221) (by decide) (fun hc40 => ?_) (fun hc40 => ?_)
      · refine j_loc [0, 1, 2, 3, 5, 6] rfl ?_
        exact t_L_alike_b221 (κ := ks9 κ 2) C g118 h118 g132 h132 (lq_st hk (by omega)) x0 x1 x2 x3 x5 x6 M26
      · refine j_aload_n (pc := 167) C dL_alike_167 rfl ?_
        refine j_iconst (pc := 168) C dL_alike_168 (v := 4) rfl ?_
        refine j_iload (pc := 169) C dL_alike_169 rfl ?_
        refine j_iload (pc := 171) C dL_alike_171 rfl ?_
        refine j_iconst (pc := 173) C dL_alike_173 (v := 1) rfl ?_
        refine j_callQS (pc := 174) (κ := ks9 κ 2) (κ1 := ks9 κ 3) (c := 1) C rfl dL_alike_174 ls_L_160 rfl (Nat.le_of_ble_eq_true rfl) (Nat.le_of_ble_eq_true rfl) (by decide) (ks_add rfl) (lq_le hk (by omega)) (fun l hl o ho => sp_L_call hl ho) (fun v29 M28 => ?_)
        refine j_aload_n (pc := 177) C dL_alike_177 rfl ?_
        refine j_iconst (pc := 178) C dL_alike_178 (v := 4) rfl ?_
        refine j_iload (pc := 179) C dL_alike_179 rfl ?_
        refine j_iload (pc := 181) C dL_alike_181 rfl ?_
        refine j_iconst (pc := 183) C dL_alike_183 (v := 1) rfl ?_
        refine j_callQS (pc := 184) (κ := ks9 κ 3) (κ1 := ks9 κ 4) (c := 1) C rfl dL_alike_184 ls_L_160 rfl (Nat.le_of_ble_eq_true rfl) (Nat.le_of_ble_eq_true rfl) (by decide) (ks_add rfl) (lq_le hk (by omega)) (fun l hl o ho => sp_L_call hl ho) (fun v31 M30 => ?_)
        refine j_icmp_ne (pc := 187) C dL_alike_187 (tgt := 221) (by decide) (fun hc39 => ?_) (fun hc39 => ?_)
        · refine j_loc [0, 1, 2, 3, 5, 6] rfl ?_
          exact t_L_alike_b221 (κ := ks9 κ 4) C g118 h118 g132 h132 (lq_st hk (by omega)) x0 x1 x2 x3 x5 x6 M30
        · refine j_aload_n (pc := 190) C dL_alike_190 rfl ?_
          refine j_iconst (pc := 191) C dL_alike_191 (v := 4) rfl ?_
          refine j_iload (pc := 192) C dL_alike_192 rfl ?_
          refine j_iload (pc := 194) C dL_alike_194 rfl ?_
          refine j_iload_n (pc := 196) C dL_alike_196 rfl ?_
          refine j_iconst (pc := 197) C dL_alike_197 (v := 5) rfl ?_
          refine j_irem (pc := 198) C dL_alike_198 (fun v32 => ?_)
          refine j_callQS (pc := 199) (κ := ks9 κ 4) (κ1 := ks9 κ 5) (c := 1) C rfl dL_alike_199 ls_L_160 rfl (Nat.le_of_ble_eq_true rfl) (Nat.le_of_ble_eq_true rfl) (by decide) (ks_add rfl) (lq_le hk (by omega)) (fun l hl o ho => sp_L_call hl ho) (fun v34 M33 => ?_)
          refine j_aload_n (pc := 202) C dL_alike_202 rfl ?_
          refine j_iconst (pc := 203) C dL_alike_203 (v := 4) rfl ?_
          refine j_iload (pc := 204) C dL_alike_204 rfl ?_
          refine j_iload (pc := 206) C dL_alike_206 rfl ?_
          refine j_iload_n (pc := 208) C dL_alike_208 rfl ?_
          refine j_iconst (pc := 209) C dL_alike_209 (v := 5) rfl ?_
          refine j_irem (pc := 210) C dL_alike_210 (fun v35 => ?_)
          refine j_callQS (pc := 211) (κ := ks9 κ 5) (κ1 := ks9 κ 6) (c := 1) C rfl dL_alike_211 ls_L_160 rfl (Nat.le_of_ble_eq_true rfl) (Nat.le_of_ble_eq_true rfl) (by decide) (ks_add rfl) (lq_le hk (by omega)) (fun l hl o ho => sp_L_call hl ho) (fun v37 M36 => ?_)
          refine j_icmp_ne (pc := 214) C dL_alike_214 (tgt := 221) (by decide) (fun hc38 => ?_) (fun hc38 => ?_)
          · refine j_loc [0, 1, 2, 3, 5, 6] rfl ?_
            exact t_L_alike_b221 (κ := ks9 κ 6) C g118 h118 g132 h132 (lq_st hk (by omega)) x0 x1 x2 x3 x5 x6 M36
          · refine j_iconst (pc := 217) C dL_alike_217 (v := 1) rfl ?_
            refine j_goto (pc := 218) C dL_alike_218 (tgt := 222) (by decide) ?_
            refine j_loc [0, 1, 2, 3, 5, 6] rfl ?_
            exact t_L_alike_b222 (κ := ks9 κ 6) C g118 h118 g132 h132 (lq_st hk (by omega)) x0 x1 x2 x3 x5 x6 (1 : Int32) M36
theorem t_L_alike_l132 {z : Sh9} {N : Nv9} {X : Cx9} {out : Out9 × Mem9} (C : OK9 z N X out 7 (4163, 6 * 4163) cL_alike RL 11 2 []) {E118 : Nat} {r118 : Nat → Nat → Int32 → Int32 → Int32 → Int32 → Mem9 → Re9} (g118 : 0 ≤ E118) (h118 : ∀ κ2 : Ka9, lq9 κ2 E118 (4163, 6 * 4163) → ∀ (x0 : Nat) (x1 : Nat) (x2 : Int32) (x3 : Int32) (x4 : Int32) (x5 : Int32) (M : Mem9), J9 z N X out 7 118 [(0, .ref x0), (1, .ref x1), (2, .int x2), (3, .int x3), (4, .int x4), (5, .int x5)] [] M κ2 (r118 x0 x1 x2 x3 x4 x5 M)) : ∀ (n : Nat) (κ : Ka9), lq9 κ (n * 6 + (0 + E118)) (4163, 6 * 4163) → ∀ (x0 : Nat) (x1 : Nat) (x2 : Int32) (x3 : Int32) (x4 : Int32) (x5 : Int32) (x6 : Int32) (M : Mem9), J9 z N X out 7 132 [(0, .ref x0), (1, .ref x1), (2, .int x2), (3, .int x3), (4, .int x4), (5, .int x5), (6, .int x6)] [] M κ (fx9 (fun _ _ _ _ _ _ _ _ => none) (f_L_alike_b132 z r118) n x0 x1 x2 x3 x4 x5 x6 M) := by
  intro n
  induction n with
  | zero => intro κ hk x0 x1 x2 x3 x4 x5 x6 M; exact j_none
  | succ n ih =>
    intro κ hk x0 x1 x2 x3 x4 x5 x6 M
    exact t_L_alike_b132 (κ := κ) C g118 h118 (E132 := n * 6 + (0 + E118)) (by omega) ih (lq_mo hk (by omega)) x0 x1 x2 x3 x4 x5 x6 M
def f_L_alike_b118 (z : Sh9) (r118 : Nat → Nat → Int32 → Int32 → Int32 → Int32 → Mem9 → Re9) (x0 : Nat) (x1 : Nat) (x2 : Int32) (x3 : Int32) (x4 : Int32) (x5 : Int32) (M : Mem9) : Re9 :=
  (if x3 ≤ x5 then (rz9 x4 M) else (if x4 = 0 then (rz9 x4 M) else (fx9 (fun _ _ _ _ _ _ _ _ => none) (f_L_alike_b132 z r118) 26 x0 x1 x2 x3 x4 x5 (0 : Int32) M)))
set_option maxRecDepth 20000 in
set_option maxHeartbeats 4000000 in
theorem t_L_alike_b118 {z : Sh9} {N : Nv9} {X : Cx9} {out : Out9 × Mem9} {κ : Ka9} (C : OK9 z N X out 7 (4163, 6 * 4163) cL_alike RL 11 2 []) {E118 : Nat} {r118 : Nat → Nat → Int32 → Int32 → Int32 → Int32 → Mem9 → Re9} (g118 : 0 ≤ E118) (h118 : ∀ κ2 : Ka9, lq9 κ2 E118 (4163, 6 * 4163) → ∀ (x0 : Nat) (x1 : Nat) (x2 : Int32) (x3 : Int32) (x4 : Int32) (x5 : Int32) (M : Mem9), J9 z N X out 7 118 [(0, .ref x0), (1, .ref x1), (2, .int x2), (3, .int x3), (4, .int x4), (5, .int x5)] [] M κ2 (r118 x0 x1 x2 x3 x4 x5 M)) (hk : lq9 κ (156 + E118) (4163, 6 * 4163)) (x0 : Nat) (x1 : Nat) (x2 : Int32) (x3 : Int32) (x4 : Int32) (x5 : Int32) (M : Mem9) : J9 z N X out 7 118 [(0, .ref x0), (1, .ref x1), (2, .int x2), (3, .int x3), (4, .int x4), (5, .int x5)] [] M κ (f_L_alike_b118 z r118 x0 x1 x2 x3 x4 x5 M) := by
  refine j_ks0 ?_
  refine j_iload (pc := 118) C dL_alike_118 rfl ?_
  refine j_iload_n (pc := 120) C dL_alike_120 rfl ?_
  refine j_icmp_ge (pc := 121) C dL_alike_121 (tgt := 236) (by decide) (fun hc23 => ?_) (fun hc23 => ?_)
  · refine j_iload (pc := 236) C dL_alike_236 rfl ?_
    exact j_zreturn (pc := 238) C rfl dL_alike_238 (lq_end hk (by omega))
  · refine j_iload (pc := 124) C dL_alike_124 rfl ?_
    refine j_if_eq (pc := 126) C dL_alike_126 (tgt := 236) (by decide) (fun hc22 => ?_) (fun hc22 => ?_)
    · refine j_iload (pc := 236) C dL_alike_236 rfl ?_
      exact j_zreturn (pc := 238) C rfl dL_alike_238 (lq_end hk (by omega))
    · refine j_iconst (pc := 129) C dL_alike_129 (v := 0) rfl ?_
      refine j_istore (pc := 130) C dL_alike_130 (Nat.le_of_ble_eq_true rfl) (ls' := [(6, .int (0 : Int32)), (0, .ref x0), (1, .ref x1), (2, .int x2), (3, .int x3), (4, .int x4), (5, .int x5)]) rfl ?_
      refine j_loc [1, 2, 3, 4, 5, 6, 0] rfl ?_
      exact t_L_alike_l132 C g118 h118 26 (ks9 κ 0) (lq_st hk (by omega)) x0 x1 x2 x3 x4 x5 (0 : Int32) M
theorem t_L_alike_l118 {z : Sh9} {N : Nv9} {X : Cx9} {out : Out9 × Mem9} (C : OK9 z N X out 7 (4163, 6 * 4163) cL_alike RL 11 2 [])  : ∀ (n : Nat) (κ : Ka9), lq9 κ (n * 156 + (0)) (4163, 6 * 4163) → ∀ (x0 : Nat) (x1 : Nat) (x2 : Int32) (x3 : Int32) (x4 : Int32) (x5 : Int32) (M : Mem9), J9 z N X out 7 118 [(0, .ref x0), (1, .ref x1), (2, .int x2), (3, .int x3), (4, .int x4), (5, .int x5)] [] M κ (fx9 (fun _ _ _ _ _ _ _ => none) (f_L_alike_b118 z ) n x0 x1 x2 x3 x4 x5 M) := by
  intro n
  induction n with
  | zero => intro κ hk x0 x1 x2 x3 x4 x5 M; exact j_none
  | succ n ih =>
    intro κ hk x0 x1 x2 x3 x4 x5 M
    exact t_L_alike_b118 (κ := κ) C  (E118 := n * 156 + (0)) (by omega) ih (lq_mo hk (by omega)) x0 x1 x2 x3 x4 x5 M
def f_L_alike_b115 (z : Sh9)  (x0 : Nat) (x1 : Nat) (x2 : Int32) (x3 : Int32) (x4 : Int32) (M : Mem9) : Re9 :=
  (fx9 (fun _ _ _ _ _ _ _ => none) (f_L_alike_b118 z ) 26 x0 x1 x2 x3 x4 (0 : Int32) M)
set_option maxRecDepth 20000 in
set_option maxHeartbeats 4000000 in
theorem t_L_alike_b115 {z : Sh9} {N : Nv9} {X : Cx9} {out : Out9 × Mem9} {κ : Ka9} (C : OK9 z N X out 7 (4163, 6 * 4163) cL_alike RL 11 2 [])  (hk : lq9 κ (4056) (4163, 6 * 4163)) (x0 : Nat) (x1 : Nat) (x2 : Int32) (x3 : Int32) (x4 : Int32) (M : Mem9) : J9 z N X out 7 115 [(0, .ref x0), (1, .ref x1), (2, .int x2), (3, .int x3), (4, .int x4)] [] M κ (f_L_alike_b115 z  x0 x1 x2 x3 x4 M) := by
  refine j_ks0 ?_
  refine j_iconst (pc := 115) C dL_alike_115 (v := 0) rfl ?_
  refine j_istore (pc := 116) C dL_alike_116 (Nat.le_of_ble_eq_true rfl) (ls' := [(5, .int (0 : Int32)), (0, .ref x0), (1, .ref x1), (2, .int x2), (3, .int x3), (4, .int x4)]) rfl ?_
  refine j_loc [1, 2, 3, 4, 5, 0] rfl ?_
  exact t_L_alike_l118 C  26 (ks9 κ 0) (lq_st hk (by omega)) x0 x1 x2 x3 x4 (0 : Int32) M
def f_L_alike_b107 (z : Sh9) (r46 : Nat → Nat → Int32 → Int32 → Int32 → Int32 → Mem9 → Re9) (x0 : Nat) (x1 : Nat) (x2 : Int32) (x3 : Int32) (x5 : Int32) (s0 : Int32) (M : Mem9) : Re9 :=
  (r46 x0 x1 x2 x3 s0 (x5 + (1 : Int32)) M)
set_option maxRecDepth 20000 in
set_option maxHeartbeats 4000000 in
theorem t_L_alike_b107 {z : Sh9} {N : Nv9} {X : Cx9} {out : Out9 × Mem9} {κ : Ka9} (C : OK9 z N X out 7 (4163, 6 * 4163) cL_alike RL 11 2 []) {E46 : Nat} {r46 : Nat → Nat → Int32 → Int32 → Int32 → Int32 → Mem9 → Re9} (g46 : 4056 ≤ E46) (h46 : ∀ κ2 : Ka9, lq9 κ2 E46 (4163, 6 * 4163) → ∀ (x0 : Nat) (x1 : Nat) (x2 : Int32) (x3 : Int32) (x4 : Int32) (x5 : Int32) (M : Mem9), J9 z N X out 7 46 [(0, .ref x0), (1, .ref x1), (2, .int x2), (3, .int x3), (4, .int x4), (5, .int x5)] [] M κ2 (r46 x0 x1 x2 x3 x4 x5 M)) (hk : lq9 κ (0 + E46) (4163, 6 * 4163)) (x0 : Nat) (x1 : Nat) (x2 : Int32) (x3 : Int32) (x5 : Int32) (s0 : Int32) (M : Mem9) : J9 z N X out 7 107 [(0, .ref x0), (1, .ref x1), (2, .int x2), (3, .int x3), (5, .int x5)] [.int s0] M κ (f_L_alike_b107 z r46 x0 x1 x2 x3 x5 s0 M) := by
  refine j_ks0 ?_
  refine j_istore (pc := 107) C dL_alike_107 (Nat.le_of_ble_eq_true rfl) (ls' := [(4, .int s0), (0, .ref x0), (1, .ref x1), (2, .int x2), (3, .int x3), (5, .int x5)]) rfl ?_
  refine j_iinc (pc := 109) C dL_alike_109 rfl (v := (x5 + (1 : Int32))) rfl (Nat.le_of_ble_eq_true rfl) (ls' := [(5, .int (x5 + (1 : Int32))), (4, .int s0), (0, .ref x0), (1, .ref x1), (2, .int x2), (3, .int x3)]) rfl ?_
  refine j_goto (pc := 112) C dL_alike_112 (tgt := 46) (by decide) ?_
  refine j_loc [2, 3, 4, 5, 1, 0] rfl ?_
  exact h46 (ks9 κ 0) (lq_st hk (by omega)) x0 x1 x2 x3 s0 (x5 + (1 : Int32)) M
def f_L_alike_b106 (z : Sh9) (r46 : Nat → Nat → Int32 → Int32 → Int32 → Int32 → Mem9 → Re9) (x0 : Nat) (x1 : Nat) (x2 : Int32) (x3 : Int32) (x5 : Int32) (M : Mem9) : Re9 :=
  (f_L_alike_b107 z r46 x0 x1 x2 x3 x5 (0 : Int32) M)
set_option maxRecDepth 20000 in
set_option maxHeartbeats 4000000 in
theorem t_L_alike_b106 {z : Sh9} {N : Nv9} {X : Cx9} {out : Out9 × Mem9} {κ : Ka9} (C : OK9 z N X out 7 (4163, 6 * 4163) cL_alike RL 11 2 []) {E46 : Nat} {r46 : Nat → Nat → Int32 → Int32 → Int32 → Int32 → Mem9 → Re9} (g46 : 4056 ≤ E46) (h46 : ∀ κ2 : Ka9, lq9 κ2 E46 (4163, 6 * 4163) → ∀ (x0 : Nat) (x1 : Nat) (x2 : Int32) (x3 : Int32) (x4 : Int32) (x5 : Int32) (M : Mem9), J9 z N X out 7 46 [(0, .ref x0), (1, .ref x1), (2, .int x2), (3, .int x3), (4, .int x4), (5, .int x5)] [] M κ2 (r46 x0 x1 x2 x3 x4 x5 M)) (hk : lq9 κ (0 + E46) (4163, 6 * 4163)) (x0 : Nat) (x1 : Nat) (x2 : Int32) (x3 : Int32) (x5 : Int32) (M : Mem9) : J9 z N X out 7 106 [(0, .ref x0), (1, .ref x1), (2, .int x2), (3, .int x3), (5, .int x5)] [] M κ (f_L_alike_b106 z r46 x0 x1 x2 x3 x5 M) := by
  refine j_ks0 ?_
  refine j_iconst (pc := 106) C dL_alike_106 (v := 0) rfl ?_
  exact t_L_alike_b107 (κ := ks9 κ 0) C g46 h46 (lq_st hk (by omega)) x0 x1 x2 x3 x5 (0 : Int32) M
def f_L_alike_b46 (z : Sh9) (r46 : Nat → Nat → Int32 → Int32 → Int32 → Int32 → Mem9 → Re9) (x0 : Nat) (x1 : Nat) (x2 : Int32) (x3 : Int32) (x4 : Int32) (x5 : Int32) (M : Mem9) : Re9 :=
  (if (10 : Int32) ≤ x5 then (f_L_alike_b115 z  x0 x1 x2 x3 x4 M) else (if x4 = 0 then (f_L_alike_b115 z  x0 x1 x2 x3 x4 M) else (bi9 (f_L_call z x0 (2 : Int32) x5 (0 : Int32) (0 : Int32) M) fun v11 M10 => (bi9 (f_L_call z x1 (2 : Int32) x5 (0 : Int32) (0 : Int32) M10) fun v13 M12 => (if v11 = v13 then (bi9 (f_L_call z x0 (6 : Int32) x5 (0 : Int32) (0 : Int32) M12) fun v15 M14 => (bi9 (f_L_call z x1 (6 : Int32) x5 (0 : Int32) (0 : Int32) M14) fun v17 M16 => (if v15 = v17 then (f_L_alike_b107 z r46 x0 x1 x2 x3 x5 (1 : Int32) M16) else (f_L_alike_b106 z r46 x0 x1 x2 x3 x5 M16)))) else (f_L_alike_b106 z r46 x0 x1 x2 x3 x5 M12))))))
set_option maxRecDepth 20000 in
set_option maxHeartbeats 4000000 in
theorem t_L_alike_b46 {z : Sh9} {N : Nv9} {X : Cx9} {out : Out9 × Mem9} {κ : Ka9} (C : OK9 z N X out 7 (4163, 6 * 4163) cL_alike RL 11 2 []) {E46 : Nat} {r46 : Nat → Nat → Int32 → Int32 → Int32 → Int32 → Mem9 → Re9} (g46 : 4056 ≤ E46) (h46 : ∀ κ2 : Ka9, lq9 κ2 E46 (4163, 6 * 4163) → ∀ (x0 : Nat) (x1 : Nat) (x2 : Int32) (x3 : Int32) (x4 : Int32) (x5 : Int32) (M : Mem9), J9 z N X out 7 46 [(0, .ref x0), (1, .ref x1), (2, .int x2), (3, .int x3), (4, .int x4), (5, .int x5)] [] M κ2 (r46 x0 x1 x2 x3 x4 x5 M)) (hk : lq9 κ (4 + E46) (4163, 6 * 4163)) (x0 : Nat) (x1 : Nat) (x2 : Int32) (x3 : Int32) (x4 : Int32) (x5 : Int32) (M : Mem9) : J9 z N X out 7 46 [(0, .ref x0), (1, .ref x1), (2, .int x2), (3, .int x3), (4, .int x4), (5, .int x5)] [] M κ (f_L_alike_b46 z r46 x0 x1 x2 x3 x4 x5 M) := by
  refine j_ks0 ?_
  refine j_iload (pc := 46) C dL_alike_46 rfl ?_
  refine j_bipush (pc := 48) C dL_alike_48 (v := 10) rfl ?_
  refine j_icmp_ge (pc := 50) C dL_alike_50 (tgt := 115) (by decide) (fun hc21 => ?_) (fun hc21 => ?_)
  · refine j_loc [0, 1, 2, 3, 4] rfl ?_
    exact t_L_alike_b115 (κ := ks9 κ 0) C  (lq_st hk (by omega)) x0 x1 x2 x3 x4 M
  · refine j_iload (pc := 53) C dL_alike_53 rfl ?_
    refine j_if_eq (pc := 55) C dL_alike_55 (tgt := 115) (by decide) (fun hc20 => ?_) (fun hc20 => ?_)
    · refine j_loc [0, 1, 2, 3, 4] rfl ?_
      exact t_L_alike_b115 (κ := ks9 κ 0) C  (lq_st hk (by omega)) x0 x1 x2 x3 x4 M
    · refine j_aload_n (pc := 58) C dL_alike_58 rfl ?_
      refine j_iconst (pc := 59) C dL_alike_59 (v := 2) rfl ?_
      refine j_iload (pc := 60) C dL_alike_60 rfl ?_
      refine j_iconst (pc := 62) C dL_alike_62 (v := 0) rfl ?_
      refine j_iconst (pc := 63) C dL_alike_63 (v := 0) rfl ?_
      refine j_callQS (pc := 64) (κ := ks9 κ 0) (κ1 := ks9 κ 1) (c := 1) C rfl dL_alike_64 ls_L_160 rfl (Nat.le_of_ble_eq_true rfl) (Nat.le_of_ble_eq_true rfl) (by decide) (ks_add rfl) (lq_le hk (by omega)) (fun l hl o ho => sp_L_call hl ho) (fun v11 M10 => ?_)
      refine j_aload_n (pc := 67) C dL_alike_67 rfl ?_
      refine j_iconst (pc := 68) C dL_alike_68 (v := 2) rfl ?_
      refine j_iload (pc := 69) C dL_alike_69 rfl ?_
      refine j_iconst (pc := 71) C dL_alike_71 (v := 0) rfl ?_
      refine j_iconst (pc := 72) C dL_alike_72 (v := 0) rfl ?_
      refine j_callQS (pc := 73) (κ := ks9 κ 1) (κ1 := ks9 κ 2) (c := 1) C rfl dL_alike_73 ls_L_160 rfl (Nat.le_of_ble_eq_true rfl) (Nat.le_of_ble_eq_true rfl) (by decide) (ks_add rfl) (lq_le hk (by omega)) (fun l hl o ho => sp_L_call hl ho) (fun v13 M12 => ?_)
      refine j_icmp_ne (pc := 76) C dL_alike_76 (tgt := 106) (by decide) (fun hc19 => ?_) (fun hc19 => ?_)
      · refine j_loc [0, 1, 2, 3, 5] rfl ?_
        exact t_L_alike_b106 (κ := ks9 κ 2) C g46 h46 (lq_st hk (by omega)) x0 x1 x2 x3 x5 M12
      · refine j_aload_n (pc := 79) C dL_alike_79 rfl ?_
        refine j_bipush (pc := 80) C dL_alike_80 (v := 6) rfl ?_
        refine j_iload (pc := 82) C dL_alike_82 rfl ?_
        refine j_iconst (pc := 84) C dL_alike_84 (v := 0) rfl ?_
        refine j_iconst (pc := 85) C dL_alike_85 (v := 0) rfl ?_
        refine j_callQS (pc := 86) (κ := ks9 κ 2) (κ1 := ks9 κ 3) (c := 1) C rfl dL_alike_86 ls_L_160 rfl (Nat.le_of_ble_eq_true rfl) (Nat.le_of_ble_eq_true rfl) (by decide) (ks_add rfl) (lq_le hk (by omega)) (fun l hl o ho => sp_L_call hl ho) (fun v15 M14 => ?_)
        refine j_aload_n (pc := 89) C dL_alike_89 rfl ?_
        refine j_bipush (pc := 90) C dL_alike_90 (v := 6) rfl ?_
        refine j_iload (pc := 92) C dL_alike_92 rfl ?_
        refine j_iconst (pc := 94) C dL_alike_94 (v := 0) rfl ?_
        refine j_iconst (pc := 95) C dL_alike_95 (v := 0) rfl ?_
        refine j_callQS (pc := 96) (κ := ks9 κ 3) (κ1 := ks9 κ 4) (c := 1) C rfl dL_alike_96 ls_L_160 rfl (Nat.le_of_ble_eq_true rfl) (Nat.le_of_ble_eq_true rfl) (by decide) (ks_add rfl) (lq_le hk (by omega)) (fun l hl o ho => sp_L_call hl ho) (fun v17 M16 => ?_)
        refine j_icmp_ne (pc := 99) C dL_alike_99 (tgt := 106) (by decide) (fun hc18 => ?_) (fun hc18 => ?_)
        · refine j_loc [0, 1, 2, 3, 5] rfl ?_
          exact t_L_alike_b106 (κ := ks9 κ 4) C g46 h46 (lq_st hk (by omega)) x0 x1 x2 x3 x5 M16
        · refine j_iconst (pc := 102) C dL_alike_102 (v := 1) rfl ?_
          refine j_goto (pc := 103) C dL_alike_103 (tgt := 107) (by decide) ?_
          refine j_loc [0, 1, 2, 3, 5] rfl ?_
          exact t_L_alike_b107 (κ := ks9 κ 4) C g46 h46 (lq_st hk (by omega)) x0 x1 x2 x3 x5 (1 : Int32) M16
theorem t_L_alike_l46 {z : Sh9} {N : Nv9} {X : Cx9} {out : Out9 × Mem9} (C : OK9 z N X out 7 (4163, 6 * 4163) cL_alike RL 11 2 [])  : ∀ (n : Nat) (κ : Ka9), lq9 κ (n * 4 + (4056)) (4163, 6 * 4163) → ∀ (x0 : Nat) (x1 : Nat) (x2 : Int32) (x3 : Int32) (x4 : Int32) (x5 : Int32) (M : Mem9), J9 z N X out 7 46 [(0, .ref x0), (1, .ref x1), (2, .int x2), (3, .int x3), (4, .int x4), (5, .int x5)] [] M κ (fx9 (fun _ _ _ _ _ _ _ => none) (f_L_alike_b46 z ) n x0 x1 x2 x3 x4 x5 M) := by
  intro n
  induction n with
  | zero => intro κ hk x0 x1 x2 x3 x4 x5 M; exact j_none
  | succ n ih =>
    intro κ hk x0 x1 x2 x3 x4 x5 M
    exact t_L_alike_b46 (κ := κ) C  (E46 := n * 4 + (4056)) (by omega) ih (lq_mo hk (by omega)) x0 x1 x2 x3 x4 x5 M
def f_L_alike_b41 (z : Sh9)  (x0 : Nat) (x1 : Nat) (x2 : Int32) (x3 : Int32) (s0 : Int32) (M : Mem9) : Re9 :=
  (fx9 (fun _ _ _ _ _ _ _ => none) (f_L_alike_b46 z ) 26 x0 x1 x2 x3 s0 (0 : Int32) M)
set_option maxRecDepth 20000 in
set_option maxHeartbeats 4000000 in
theorem t_L_alike_b41 {z : Sh9} {N : Nv9} {X : Cx9} {out : Out9 × Mem9} {κ : Ka9} (C : OK9 z N X out 7 (4163, 6 * 4163) cL_alike RL 11 2 [])  (hk : lq9 κ (4160) (4163, 6 * 4163)) (x0 : Nat) (x1 : Nat) (x2 : Int32) (x3 : Int32) (s0 : Int32) (M : Mem9) : J9 z N X out 7 41 [(0, .ref x0), (1, .ref x1), (2, .int x2), (3, .int x3)] [.int s0] M κ (f_L_alike_b41 z  x0 x1 x2 x3 s0 M) := by
  refine j_ks0 ?_
  refine j_istore (pc := 41) C dL_alike_41 (Nat.le_of_ble_eq_true rfl) (ls' := [(4, .int s0), (0, .ref x0), (1, .ref x1), (2, .int x2), (3, .int x3)]) rfl ?_
  refine j_iconst (pc := 43) C dL_alike_43 (v := 0) rfl ?_
  refine j_istore (pc := 44) C dL_alike_44 (Nat.le_of_ble_eq_true rfl) (ls' := [(5, .int (0 : Int32)), (4, .int s0), (0, .ref x0), (1, .ref x1), (2, .int x2), (3, .int x3)]) rfl ?_
  refine j_loc [2, 3, 4, 5, 1, 0] rfl ?_
  exact t_L_alike_l46 C  26 (ks9 κ 0) (lq_st hk (by omega)) x0 x1 x2 x3 s0 (0 : Int32) M
def f_L_alike_b0 (z : Sh9)  (x0 : Nat) (x1 : Nat) (x2 : Int32) (M : Mem9) : Re9 :=
  (bi9 (f_L_call z x0 (2 : Int32) (0 : Int32) (0 : Int32) (0 : Int32) M) fun v2 M1 => ((rm9 x2 (20 : Int32)).bind fun v3 => (bi9 (f_L_doSimulate z x0 (Int32.toInt64 x2) ((1 : Int32) + v3) M1) fun v5 M4 => ((rm9 x2 (20 : Int32)).bind fun v6 => (bi9 (f_L_doSimulate z x1 (Int32.toInt64 x2) ((1 : Int32) + v6) M4) fun v8 M7 => (if v5 = v8 then (f_L_alike_b41 z  x0 x1 x2 v2 (1 : Int32) M7) else (f_L_alike_b41 z  x0 x1 x2 v2 (0 : Int32) M7)))))))
set_option maxRecDepth 20000 in
set_option maxHeartbeats 4000000 in
theorem t_L_alike_b0 {z : Sh9} {N : Nv9} {X : Cx9} {out : Out9 × Mem9} {κ : Ka9} (C : OK9 z N X out 7 (4163, 6 * 4163) cL_alike RL 11 2 [])  (hk : lq9 κ (4163) (4163, 6 * 4163)) (x0 : Nat) (x1 : Nat) (x2 : Int32) (M : Mem9) : J9 z N X out 7 0 [(0, .ref x0), (1, .ref x1), (2, .int x2)] [] M κ (f_L_alike_b0 z  x0 x1 x2 M) := by
  refine j_ks0 ?_
  refine j_aload_n (pc := 0) C dL_alike_0 rfl ?_
  refine j_iconst (pc := 1) C dL_alike_1 (v := 2) rfl ?_
  refine j_iconst (pc := 2) C dL_alike_2 (v := 0) rfl ?_
  refine j_iconst (pc := 3) C dL_alike_3 (v := 0) rfl ?_
  refine j_iconst (pc := 4) C dL_alike_4 (v := 0) rfl ?_
  refine j_callQS (pc := 5) (κ := ks9 κ 0) (κ1 := ks9 κ 1) (c := 1) C rfl dL_alike_5 ls_L_160 rfl (Nat.le_of_ble_eq_true rfl) (Nat.le_of_ble_eq_true rfl) (by decide) (ks_add rfl) (lq_le hk (by omega)) (fun l hl o ho => sp_L_call hl ho) (fun v2 M1 => ?_)
  refine j_istore_n (pc := 8) C dL_alike_8 (Nat.le_of_ble_eq_true rfl) (ls' := [(3, .int v2), (0, .ref x0), (1, .ref x1), (2, .int x2)]) rfl ?_
  refine j_aload_n (pc := 9) C dL_alike_9 rfl ?_
  refine j_iload_n (pc := 10) C dL_alike_10 rfl ?_
  refine j_i2l (pc := 11) C dL_alike_11 ?_
  refine j_iconst (pc := 12) C dL_alike_12 (v := 1) rfl ?_
  refine j_iload_n (pc := 13) C dL_alike_13 rfl ?_
  refine j_bipush (pc := 14) C dL_alike_14 (v := 20) rfl ?_
  refine j_irem (pc := 16) C dL_alike_16 (fun v3 => ?_)
  refine j_iadd (pc := 17) C dL_alike_17 ?_
  refine j_callQW (pc := 18) (κ := ks9 κ 1) (κ1 := ks9 κ 2) (c := 1) C rfl dL_alike_18 lw_L_178 rfl (Nat.le_of_ble_eq_true rfl) (Nat.le_of_ble_eq_true rfl) (by decide) (ks_add rfl) (lq_le hk (by omega)) (fun l hl o ho => sp_L_doSimulate hl ho) (fun v5 M4 => ?_)
  refine j_aload_n (pc := 21) C dL_alike_21 rfl ?_
  refine j_iload_n (pc := 22) C dL_alike_22 rfl ?_
  refine j_i2l (pc := 23) C dL_alike_23 ?_
  refine j_iconst (pc := 24) C dL_alike_24 (v := 1) rfl ?_
  refine j_iload_n (pc := 25) C dL_alike_25 rfl ?_
  refine j_bipush (pc := 26) C dL_alike_26 (v := 20) rfl ?_
  refine j_irem (pc := 28) C dL_alike_28 (fun v6 => ?_)
  refine j_iadd (pc := 29) C dL_alike_29 ?_
  refine j_callQW (pc := 30) (κ := ks9 κ 2) (κ1 := ks9 κ 3) (c := 1) C rfl dL_alike_30 lw_L_178 rfl (Nat.le_of_ble_eq_true rfl) (Nat.le_of_ble_eq_true rfl) (by decide) (ks_add rfl) (lq_le hk (by omega)) (fun l hl o ho => sp_L_doSimulate hl ho) (fun v8 M7 => ?_)
  refine j_icmp_ne (pc := 33) C dL_alike_33 (tgt := 40) (by decide) (fun hc9 => ?_) (fun hc9 => ?_)
  · refine j_iconst (pc := 40) C dL_alike_40 (v := 0) rfl ?_
    refine j_loc [1, 2, 3, 0] rfl ?_
    exact t_L_alike_b41 (κ := ks9 κ 3) C  (lq_st hk (by omega)) x0 x1 x2 v2 (0 : Int32) M7
  · refine j_iconst (pc := 36) C dL_alike_36 (v := 1) rfl ?_
    refine j_goto (pc := 37) C dL_alike_37 (tgt := 41) (by decide) ?_
    refine j_loc [1, 2, 3, 0] rfl ?_
    exact t_L_alike_b41 (κ := ks9 κ 3) C  (lq_st hk (by omega)) x0 x1 x2 v2 (1 : Int32) M7
def f_L_alike (z : Sh9) (a0 : Nat) (a1 : Nat) (a2 : Int32) (M : Mem9) : Re9 := f_L_alike_b0 z a0 a1 a2 M
theorem sp_L_alike {l : Launch} {z : Sh9} {N : Nv9} {a0 : Nat} {a1 : Nat} {a2 : Int32} {M : Mem9} {o : Out9 × Mem9} (hl : l.stackTraces = false) (h : f_L_alike z a0 a1 a2 M = some o) : Sp9 l z N yL_alike (Cond.code yL_alike cL_alike 7 (some .boolean)) 11 [.ref a0, .ref a1, .int a2] M (4163, 6 * 4163) o :=
  sp9_ofQ (rk := 2) (own := RL) (c9 := 4163) (by decide +kernel) rfl (Or.inr (Or.inr (Or.inl ⟨rfl, rfl⟩))) hl (Nat.le_of_ble_eq_true rfl) (fun X C => t_L_alike_b0 (κ := (0, 0)) C ⟨Nat.le_of_eq (Nat.zero_add _), Nat.le_of_eq (Nat.zero_add _)⟩ a0 a1 a2 M) h
def f_L_thrown_b0 (z : Sh9)  (x0 : Int32) (M : Mem9) : Re9 :=
  (if x0 = (-9999001 : Int32) then (rz9 (1 : Int32) M) else (if x0 = (-9999002 : Int32) then (rz9 (1 : Int32) M) else (if x0 = (-9999003 : Int32) then (rz9 (1 : Int32) M) else (rz9 (0 : Int32) M))))
set_option maxRecDepth 20000 in
set_option maxHeartbeats 4000000 in
theorem t_L_thrown_b0 {z : Sh9} {N : Nv9} {X : Cx9} {out : Out9 × Mem9} {κ : Ka9} (C : OK9 z N X out 1 (0, 6 * 0) cL_thrown RL 0 2 [])  (hk : lq9 κ (0) (0, 6 * 0)) (x0 : Int32) (M : Mem9) : J9 z N X out 1 0 [(0, .int x0)] [] M κ (f_L_thrown_b0 z  x0 M) := by
  refine j_ks0 ?_
  refine j_iload_n (pc := 0) C dL_thrown_0 rfl ?_
  refine j_ldc (pc := 1) C dL_thrown_1 (v := -9999001) w9_489 ?_
  refine j_icmp_eq (pc := 3) C dL_thrown_3 (tgt := 18) (by decide) (fun hc3 => ?_) (fun hc3 => ?_)
  · refine j_iconst (pc := 18) C dL_thrown_18 (v := 1) rfl ?_
    refine j_goto (pc := 19) C dL_thrown_19 (tgt := 23) (by decide) ?_
    exact j_zreturn (pc := 23) C rfl dL_thrown_23 (lq_end hk (by omega))
  · refine j_iload_n (pc := 6) C dL_thrown_6 rfl ?_
    refine j_ldc (pc := 7) C dL_thrown_7 (v := -9999002) w9_274 ?_
    refine j_icmp_eq (pc := 9) C dL_thrown_9 (tgt := 18) (by decide) (fun hc2 => ?_) (fun hc2 => ?_)
    · refine j_iconst (pc := 18) C dL_thrown_18 (v := 1) rfl ?_
      refine j_goto (pc := 19) C dL_thrown_19 (tgt := 23) (by decide) ?_
      exact j_zreturn (pc := 23) C rfl dL_thrown_23 (lq_end hk (by omega))
    · refine j_iload_n (pc := 12) C dL_thrown_12 rfl ?_
      refine j_ldc (pc := 13) C dL_thrown_13 (v := -9999003) w9_275 ?_
      refine j_icmp_ne (pc := 15) C dL_thrown_15 (tgt := 22) (by decide) (fun hc1 => ?_) (fun hc1 => ?_)
      · refine j_iconst (pc := 22) C dL_thrown_22 (v := 0) rfl ?_
        exact j_zreturn (pc := 23) C rfl dL_thrown_23 (lq_end hk (by omega))
      · refine j_iconst (pc := 18) C dL_thrown_18 (v := 1) rfl ?_
        refine j_goto (pc := 19) C dL_thrown_19 (tgt := 23) (by decide) ?_
        exact j_zreturn (pc := 23) C rfl dL_thrown_23 (lq_end hk (by omega))
def f_L_thrown (z : Sh9) (a0 : Int32) (M : Mem9) : Re9 := f_L_thrown_b0 z a0 M
theorem sp_L_thrown {l : Launch} {z : Sh9} {N : Nv9} {a0 : Int32} {M : Mem9} {o : Out9 × Mem9} (hl : l.stackTraces = false) (h : f_L_thrown z a0 M = some o) : Sp9 l z N yL_thrown (Cond.code yL_thrown cL_thrown 1 (some .boolean)) 0 [.int a0] M (0, 6 * 0) o :=
  sp9_ofQ (rk := 2) (own := RL) (c9 := 0) (by decide +kernel) rfl (Or.inr (Or.inr (Or.inl ⟨rfl, rfl⟩))) hl (Nat.le_of_ble_eq_true rfl) (fun X C => t_L_thrown_b0 (κ := (0, 0)) C ⟨Nat.le_of_eq (Nat.zero_add _), Nat.le_of_eq (Nat.zero_add _)⟩ a0 M) h
def f_L_breaks_b59 (z : Sh9)  (x0 : Nat) (x1 : Int32) (x2 : Int32) (s0 : Int32) (M : Mem9) : Re9 :=
  (if s0 = 0 then (rz9 (0 : Int32) M) else (bi9 (f_L_call z x0 (9 : Int32) x2 (0 : Int32) (0 : Int32) M) fun v17 M16 => (if v17 < 0 then (rz9 (0 : Int32) M16) else (bi9 (f_L_call z x0 (3 : Int32) x1 (5 : Int32) (0 : Int32) M16) fun v19 M18 => (if v19 = (1 : Int32) then (bi9 (f_L_call z x0 (11 : Int32) (0 : Int32) (0 : Int32) (0 : Int32) M18) fun v21 M20 => (bi9 (f_L_thrown z v21 M20) fun v23 M22 => (if v23 = 0 then (bi9 (f_L_call z x0 (11 : Int32) (0 : Int32) (0 : Int32) (0 : Int32) M22) fun v25 M24 => (bi9 (f_L_thrown z v25 M24) fun v27 M26 => (if v27 = 0 then (rz9 (1 : Int32) M26) else (rz9 (0 : Int32) M26)))) else (rz9 (0 : Int32) M22)))) else (rz9 (0 : Int32) M18))))))
set_option maxRecDepth 20000 in
set_option maxHeartbeats 4000000 in
theorem t_L_breaks_b59 {z : Sh9} {N : Nv9} {X : Cx9} {out : Out9 × Mem9} {κ : Ka9} (C : OK9 z N X out 4 (8, 6 * 8) cL_breaks RL 11 2 [])  (hk : lq9 κ (4) (8, 6 * 8)) (x0 : Nat) (x1 : Int32) (x2 : Int32) (s0 : Int32) (M : Mem9) : J9 z N X out 4 59 [(0, .ref x0), (1, .int x1), (2, .int x2)] [.int s0] M κ (f_L_breaks_b59 z  x0 x1 x2 s0 M) := by
  refine j_ks0 ?_
  refine j_istore_n (pc := 59) C dL_breaks_59 (Nat.le_of_ble_eq_true rfl) (ls' := [(3, .int s0), (0, .ref x0), (1, .int x1), (2, .int x2)]) rfl ?_
  refine j_iload_n (pc := 60) C dL_breaks_60 rfl ?_
  refine j_if_eq (pc := 61) C dL_breaks_61 (tgt := 122) (by decide) (fun hc32 => ?_) (fun hc32 => ?_)
  · refine j_iconst (pc := 122) C dL_breaks_122 (v := 0) rfl ?_
    exact j_zreturn (pc := 123) C rfl dL_breaks_123 (lq_end hk (by omega))
  · refine j_aload_n (pc := 64) C dL_breaks_64 rfl ?_
    refine j_bipush (pc := 65) C dL_breaks_65 (v := 9) rfl ?_
    refine j_iload_n (pc := 67) C dL_breaks_67 rfl ?_
    refine j_iconst (pc := 68) C dL_breaks_68 (v := 0) rfl ?_
    refine j_iconst (pc := 69) C dL_breaks_69 (v := 0) rfl ?_
    refine j_callQS (pc := 70) (κ := ks9 κ 0) (κ1 := ks9 κ 1) (c := 1) C rfl dL_breaks_70 ls_L_160 rfl (Nat.le_of_ble_eq_true rfl) (Nat.le_of_ble_eq_true rfl) (by decide) (ks_add rfl) (lq_le hk (by omega)) (fun l hl o ho => sp_L_call hl ho) (fun v17 M16 => ?_)
    refine j_if_lt (pc := 73) C dL_breaks_73 (tgt := 122) (by decide) (fun hc31 => ?_) (fun hc31 => ?_)
    · refine j_iconst (pc := 122) C dL_breaks_122 (v := 0) rfl ?_
      exact j_zreturn (pc := 123) C rfl dL_breaks_123 (lq_end hk (by omega))
    · refine j_aload_n (pc := 76) C dL_breaks_76 rfl ?_
      refine j_iconst (pc := 77) C dL_breaks_77 (v := 3) rfl ?_
      refine j_iload_n (pc := 78) C dL_breaks_78 rfl ?_
      refine j_iconst (pc := 79) C dL_breaks_79 (v := 5) rfl ?_
      refine j_iconst (pc := 80) C dL_breaks_80 (v := 0) rfl ?_
      refine j_callQS (pc := 81) (κ := ks9 κ 1) (κ1 := ks9 κ 2) (c := 1) C rfl dL_breaks_81 ls_L_160 rfl (Nat.le_of_ble_eq_true rfl) (Nat.le_of_ble_eq_true rfl) (by decide) (ks_add rfl) (lq_le hk (by omega)) (fun l hl o ho => sp_L_call hl ho) (fun v19 M18 => ?_)
      refine j_iconst (pc := 84) C dL_breaks_84 (v := 1) rfl ?_
      refine j_icmp_ne (pc := 85) C dL_breaks_85 (tgt := 122) (by decide) (fun hc30 => ?_) (fun hc30 => ?_)
      · refine j_iconst (pc := 122) C dL_breaks_122 (v := 0) rfl ?_
        exact j_zreturn (pc := 123) C rfl dL_breaks_123 (lq_end hk (by omega))
      · refine j_aload_n (pc := 88) C dL_breaks_88 rfl ?_
        refine j_bipush (pc := 89) C dL_breaks_89 (v := 11) rfl ?_
        refine j_iconst (pc := 91) C dL_breaks_91 (v := 0) rfl ?_
        refine j_iconst (pc := 92) C dL_breaks_92 (v := 0) rfl ?_
        refine j_iconst (pc := 93) C dL_breaks_93 (v := 0) rfl ?_
        refine j_callQS (pc := 94) (κ := ks9 κ 2) (κ1 := ks9 κ 3) (c := 1) C rfl dL_breaks_94 ls_L_160 rfl (Nat.le_of_ble_eq_true rfl) (Nat.le_of_ble_eq_true rfl) (by decide) (ks_add rfl) (lq_le hk (by omega)) (fun l hl o ho => sp_L_call hl ho) (fun v21 M20 => ?_)
        refine j_callQS (pc := 97) (κ := ks9 κ 3) (κ1 := ks9 κ 3) (c := 0) C rfl dL_breaks_97 ls_L_203 rfl (Nat.le_of_ble_eq_true rfl) (Nat.le_of_ble_eq_true rfl) (by decide) (ks_add rfl) (lq_le hk (by omega)) (fun l hl o ho => sp_L_thrown hl ho) (fun v23 M22 => ?_)
        refine j_if_ne (pc := 100) C dL_breaks_100 (tgt := 122) (by decide) (fun hc29 => ?_) (fun hc29 => ?_)
        · refine j_iconst (pc := 122) C dL_breaks_122 (v := 0) rfl ?_
          exact j_zreturn (pc := 123) C rfl dL_breaks_123 (lq_end hk (by omega))
        · refine j_aload_n (pc := 103) C dL_breaks_103 rfl ?_
          refine j_bipush (pc := 104) C dL_breaks_104 (v := 11) rfl ?_
          refine j_iconst (pc := 106) C dL_breaks_106 (v := 0) rfl ?_
          refine j_iconst (pc := 107) C dL_breaks_107 (v := 0) rfl ?_
          refine j_iconst (pc := 108) C dL_breaks_108 (v := 0) rfl ?_
          refine j_callQS (pc := 109) (κ := ks9 κ 3) (κ1 := ks9 κ 4) (c := 1) C rfl dL_breaks_109 ls_L_160 rfl (Nat.le_of_ble_eq_true rfl) (Nat.le_of_ble_eq_true rfl) (by decide) (ks_add rfl) (lq_le hk (by omega)) (fun l hl o ho => sp_L_call hl ho) (fun v25 M24 => ?_)
          refine j_callQS (pc := 112) (κ := ks9 κ 4) (κ1 := ks9 κ 4) (c := 0) C rfl dL_breaks_112 ls_L_203 rfl (Nat.le_of_ble_eq_true rfl) (Nat.le_of_ble_eq_true rfl) (by decide) (ks_add rfl) (lq_le hk (by omega)) (fun l hl o ho => sp_L_thrown hl ho) (fun v27 M26 => ?_)
          refine j_if_ne (pc := 115) C dL_breaks_115 (tgt := 122) (by decide) (fun hc28 => ?_) (fun hc28 => ?_)
          · refine j_iconst (pc := 122) C dL_breaks_122 (v := 0) rfl ?_
            exact j_zreturn (pc := 123) C rfl dL_breaks_123 (lq_end hk (by omega))
          · refine j_iconst (pc := 118) C dL_breaks_118 (v := 1) rfl ?_
            refine j_goto (pc := 119) C dL_breaks_119 (tgt := 123) (by decide) ?_
            exact j_zreturn (pc := 123) C rfl dL_breaks_123 (lq_end hk (by omega))
def f_L_breaks_b58 (z : Sh9)  (x0 : Nat) (x1 : Int32) (x2 : Int32) (M : Mem9) : Re9 :=
  (f_L_breaks_b59 z  x0 x1 x2 (0 : Int32) M)
set_option maxRecDepth 20000 in
set_option maxHeartbeats 4000000 in
theorem t_L_breaks_b58 {z : Sh9} {N : Nv9} {X : Cx9} {out : Out9 × Mem9} {κ : Ka9} (C : OK9 z N X out 4 (8, 6 * 8) cL_breaks RL 11 2 [])  (hk : lq9 κ (4) (8, 6 * 8)) (x0 : Nat) (x1 : Int32) (x2 : Int32) (M : Mem9) : J9 z N X out 4 58 [(0, .ref x0), (1, .int x1), (2, .int x2)] [] M κ (f_L_breaks_b58 z  x0 x1 x2 M) := by
  refine j_ks0 ?_
  refine j_iconst (pc := 58) C dL_breaks_58 (v := 0) rfl ?_
  exact t_L_breaks_b59 (κ := ks9 κ 0) C  (lq_st hk (by omega)) x0 x1 x2 (0 : Int32) M
def f_L_breaks_b54 (z : Sh9)  (x0 : Nat) (x1 : Int32) (x2 : Int32) (M : Mem9) : Re9 :=
  (f_L_breaks_b59 z  x0 x1 x2 (1 : Int32) M)
set_option maxRecDepth 20000 in
set_option maxHeartbeats 4000000 in
theorem t_L_breaks_b54 {z : Sh9} {N : Nv9} {X : Cx9} {out : Out9 × Mem9} {κ : Ka9} (C : OK9 z N X out 4 (8, 6 * 8) cL_breaks RL 11 2 [])  (hk : lq9 κ (4) (8, 6 * 8)) (x0 : Nat) (x1 : Int32) (x2 : Int32) (M : Mem9) : J9 z N X out 4 54 [(0, .ref x0), (1, .int x1), (2, .int x2)] [] M κ (f_L_breaks_b54 z  x0 x1 x2 M) := by
  refine j_ks0 ?_
  refine j_iconst (pc := 54) C dL_breaks_54 (v := 1) rfl ?_
  refine j_goto (pc := 55) C dL_breaks_55 (tgt := 59) (by decide) ?_
  exact t_L_breaks_b59 (κ := ks9 κ 0) C  (lq_st hk (by omega)) x0 x1 x2 (1 : Int32) M
def f_L_breaks_b0 (z : Sh9)  (x0 : Nat) (x1 : Int32) (x2 : Int32) (M : Mem9) : Re9 :=
  (bi9 (f_L_loops z x0 x1 (1 : Int32) M) fun v2 M1 => (if v2 ≤ 0 then (f_L_breaks_b58 z  x0 x1 x2 M1) else (if x2 = (1 : Int32) then (f_L_breaks_b54 z  x0 x1 x2 M1) else (bi9 (f_L_call z x0 (9 : Int32) (x2 - (1 : Int32)) (0 : Int32) (0 : Int32) M1) fun v4 M3 => (if v4 < 0 then (f_L_breaks_b58 z  x0 x1 x2 M3) else (bi9 (f_L_call z x0 (3 : Int32) x1 (5 : Int32) (0 : Int32) M3) fun v6 M5 => (if v6 = 0 then (bi9 (f_L_call z x0 (11 : Int32) (0 : Int32) (0 : Int32) (0 : Int32) M5) fun v8 M7 => (bi9 (f_L_thrown z v8 M7) fun v10 M9 => (if v10 = 0 then (f_L_breaks_b54 z  x0 x1 x2 M9) else (f_L_breaks_b58 z  x0 x1 x2 M9)))) else (f_L_breaks_b58 z  x0 x1 x2 M5))))))))
set_option maxRecDepth 20000 in
set_option maxHeartbeats 4000000 in
theorem t_L_breaks_b0 {z : Sh9} {N : Nv9} {X : Cx9} {out : Out9 × Mem9} {κ : Ka9} (C : OK9 z N X out 4 (8, 6 * 8) cL_breaks RL 11 2 [])  (hk : lq9 κ (8) (8, 6 * 8)) (x0 : Nat) (x1 : Int32) (x2 : Int32) (M : Mem9) : J9 z N X out 4 0 [(0, .ref x0), (1, .int x1), (2, .int x2)] [] M κ (f_L_breaks_b0 z  x0 x1 x2 M) := by
  refine j_ks0 ?_
  refine j_aload_n (pc := 0) C dL_breaks_0 rfl ?_
  refine j_iload_n (pc := 1) C dL_breaks_1 rfl ?_
  refine j_iconst (pc := 2) C dL_breaks_2 (v := 1) rfl ?_
  refine j_callQW (pc := 3) (κ := ks9 κ 0) (κ1 := ks9 κ 1) (c := 1) C rfl dL_breaks_3 lw_L_168 rfl (Nat.le_of_ble_eq_true rfl) (Nat.le_of_ble_eq_true rfl) (by decide) (ks_add rfl) (lq_le hk (by omega)) (fun l hl o ho => sp_L_loops hl ho) (fun v2 M1 => ?_)
  refine j_if_le (pc := 6) C dL_breaks_6 (tgt := 58) (by decide) (fun hc15 => ?_) (fun hc15 => ?_)
  · exact t_L_breaks_b58 (κ := ks9 κ 1) C  (lq_st hk (by omega)) x0 x1 x2 M1
  · refine j_iload_n (pc := 9) C dL_breaks_9 rfl ?_
    refine j_iconst (pc := 10) C dL_breaks_10 (v := 1) rfl ?_
    refine j_icmp_eq (pc := 11) C dL_breaks_11 (tgt := 54) (by decide) (fun hc14 => ?_) (fun hc14 => ?_)
    · exact t_L_breaks_b54 (κ := ks9 κ 1) C  (lq_st hk (by omega)) x0 x1 x2 M1
    · refine j_aload_n (pc := 14) C dL_breaks_14 rfl ?_
      refine j_bipush (pc := 15) C dL_breaks_15 (v := 9) rfl ?_
      refine j_iload_n (pc := 17) C dL_breaks_17 rfl ?_
      refine j_iconst (pc := 18) C dL_breaks_18 (v := 1) rfl ?_
      refine j_isub (pc := 19) C dL_breaks_19 ?_
      refine j_iconst (pc := 20) C dL_breaks_20 (v := 0) rfl ?_
      refine j_iconst (pc := 21) C dL_breaks_21 (v := 0) rfl ?_
      refine j_callQS (pc := 22) (κ := ks9 κ 1) (κ1 := ks9 κ 2) (c := 1) C rfl dL_breaks_22 ls_L_160 rfl (Nat.le_of_ble_eq_true rfl) (Nat.le_of_ble_eq_true rfl) (by decide) (ks_add rfl) (lq_le hk (by omega)) (fun l hl o ho => sp_L_call hl ho) (fun v4 M3 => ?_)
      refine j_if_lt (pc := 25) C dL_breaks_25 (tgt := 58) (by decide) (fun hc13 => ?_) (fun hc13 => ?_)
      · exact t_L_breaks_b58 (κ := ks9 κ 2) C  (lq_st hk (by omega)) x0 x1 x2 M3
      · refine j_aload_n (pc := 28) C dL_breaks_28 rfl ?_
        refine j_iconst (pc := 29) C dL_breaks_29 (v := 3) rfl ?_
        refine j_iload_n (pc := 30) C dL_breaks_30 rfl ?_
        refine j_iconst (pc := 31) C dL_breaks_31 (v := 5) rfl ?_
        refine j_iconst (pc := 32) C dL_breaks_32 (v := 0) rfl ?_
        refine j_callQS (pc := 33) (κ := ks9 κ 2) (κ1 := ks9 κ 3) (c := 1) C rfl dL_breaks_33 ls_L_160 rfl (Nat.le_of_ble_eq_true rfl) (Nat.le_of_ble_eq_true rfl) (by decide) (ks_add rfl) (lq_le hk (by omega)) (fun l hl o ho => sp_L_call hl ho) (fun v6 M5 => ?_)
        refine j_if_ne (pc := 36) C dL_breaks_36 (tgt := 58) (by decide) (fun hc12 => ?_) (fun hc12 => ?_)
        · exact t_L_breaks_b58 (κ := ks9 κ 3) C  (lq_st hk (by omega)) x0 x1 x2 M5
        · refine j_aload_n (pc := 39) C dL_breaks_39 rfl ?_
          refine j_bipush (pc := 40) C dL_breaks_40 (v := 11) rfl ?_
          refine j_iconst (pc := 42) C dL_breaks_42 (v := 0) rfl ?_
          refine j_iconst (pc := 43) C dL_breaks_43 (v := 0) rfl ?_
          refine j_iconst (pc := 44) C dL_breaks_44 (v := 0) rfl ?_
          refine j_callQS (pc := 45) (κ := ks9 κ 3) (κ1 := ks9 κ 4) (c := 1) C rfl dL_breaks_45 ls_L_160 rfl (Nat.le_of_ble_eq_true rfl) (Nat.le_of_ble_eq_true rfl) (by decide) (ks_add rfl) (lq_le hk (by omega)) (fun l hl o ho => sp_L_call hl ho) (fun v8 M7 => ?_)
          refine j_callQS (pc := 48) (κ := ks9 κ 4) (κ1 := ks9 κ 4) (c := 0) C rfl dL_breaks_48 ls_L_203 rfl (Nat.le_of_ble_eq_true rfl) (Nat.le_of_ble_eq_true rfl) (by decide) (ks_add rfl) (lq_le hk (by omega)) (fun l hl o ho => sp_L_thrown hl ho) (fun v10 M9 => ?_)
          refine j_if_ne (pc := 51) C dL_breaks_51 (tgt := 58) (by decide) (fun hc11 => ?_) (fun hc11 => ?_)
          · exact t_L_breaks_b58 (κ := ks9 κ 4) C  (lq_st hk (by omega)) x0 x1 x2 M9
          · exact t_L_breaks_b54 (κ := ks9 κ 4) C  (lq_st hk (by omega)) x0 x1 x2 M9
def f_L_breaks (z : Sh9) (a0 : Nat) (a1 : Int32) (a2 : Int32) (M : Mem9) : Re9 := f_L_breaks_b0 z a0 a1 a2 M
theorem sp_L_breaks {l : Launch} {z : Sh9} {N : Nv9} {a0 : Nat} {a1 : Int32} {a2 : Int32} {M : Mem9} {o : Out9 × Mem9} (hl : l.stackTraces = false) (h : f_L_breaks z a0 a1 a2 M = some o) : Sp9 l z N yL_breaks (Cond.code yL_breaks cL_breaks 4 (some .boolean)) 11 [.ref a0, .int a1, .int a2] M (8, 6 * 8) o :=
  sp9_ofQ (rk := 2) (own := RL) (c9 := 8) (by decide +kernel) rfl (Or.inr (Or.inr (Or.inl ⟨rfl, rfl⟩))) hl (Nat.le_of_ble_eq_true rfl) (fun X C => t_L_breaks_b0 (κ := (0, 0)) C ⟨Nat.le_of_eq (Nat.zero_add _), Nat.le_of_eq (Nat.zero_add _)⟩ a0 a1 a2 M) h
def f_L_cell_b22 (z : Sh9) (L : Nat) (xs : Nat → Int32)  (s0 : Int32) (M : Mem9) : Re9 :=
  (ri9 (s0 &&& (2147483647 : Int32)) M)
set_option maxRecDepth 20000 in
set_option maxHeartbeats 4000000 in
theorem t_L_cell_b22 {z : Sh9} {sb L : Nat} {xs : Nat → Int32} {D : va_G} {ca : Nat → ClassId} {X : Cx9} {out : Out9 × Mem9} {κ : Ka9} (C : OK9 z (sb, L, xs, D, ca) X out 2 (0, 6 * 0) cL_cell RL 0 1 [])  (hk : lq9 κ (0) (0, 6 * 0)) (s0 : Int32) (M : Mem9) : J9 z (sb, L, xs, D, ca) X out 2 22 [(0, .ref sb)] [.int s0] M κ (f_L_cell_b22 z L xs  s0 M) := by
  refine j_ks0 ?_
  refine j_ldc (pc := 22) C dL_cell_22 (v := 2147483647) w9_668 ?_
  refine j_iand (pc := 24) C dL_cell_24 ?_
  exact j_ireturn (pc := 25) C rfl dL_cell_25 (lq_end hk (by omega))
def f_L_cell_b0 (z : Sh9) (L : Nat) (xs : Nat → Int32)  (x1 : Int32) (M : Mem9) : Re9 :=
  (if (Int32.ofNat L) ≤ x1 then (f_L_cell_b22 z L xs  (((15519083 : Int32) * (x1 + (3 : Int32))) + (11273 : Int32)) M) else ((sx9 L xs x1).bind fun v1 => (f_L_cell_b22 z L xs  v1 M)))
set_option maxRecDepth 20000 in
set_option maxHeartbeats 4000000 in
theorem t_L_cell_b0 {z : Sh9} {sb L : Nat} {xs : Nat → Int32} {D : va_G} {ca : Nat → ClassId} {X : Cx9} {out : Out9 × Mem9} {κ : Ka9} (C : OK9 z (sb, L, xs, D, ca) X out 2 (0, 6 * 0) cL_cell RL 0 1 [])  (hk : lq9 κ (0) (0, 6 * 0)) (x1 : Int32) (M : Mem9) : J9 z (sb, L, xs, D, ca) X out 2 0 [(0, .ref sb), (1, .int x1)] [] M κ (f_L_cell_b0 z L xs  x1 M) := by
  refine j_ks0 ?_
  refine j_iload_n (pc := 0) C dL_cell_0 rfl ?_
  refine j_aload_n (pc := 1) C dL_cell_1 rfl ?_
  refine j_slen (pc := 2) C dL_cell_2 ?_
  refine j_icmp_ge (pc := 3) C dL_cell_3 (tgt := 12) (by decide) (fun hc2 => ?_) (fun hc2 => ?_)
  · refine j_ldc (pc := 12) C dL_cell_12 (v := 15519083) w9_667 ?_
    refine j_iload_n (pc := 14) C dL_cell_14 rfl ?_
    refine j_iconst (pc := 15) C dL_cell_15 (v := 3) rfl ?_
    refine j_iadd (pc := 16) C dL_cell_16 ?_
    refine j_imul (pc := 17) C dL_cell_17 ?_
    refine j_sipush (pc := 18) C dL_cell_18 (v := 11273) rfl ?_
    refine j_iadd (pc := 21) C dL_cell_21 ?_
    refine j_loc [0] rfl ?_
    exact t_L_cell_b22 (κ := ks9 κ 0) C  (lq_st hk (by omega)) (((15519083 : Int32) * (x1 + (3 : Int32))) + (11273 : Int32)) M
  · refine j_aload_n (pc := 6) C dL_cell_6 rfl ?_
    refine j_iload_n (pc := 7) C dL_cell_7 rfl ?_
    refine j_sld (pc := 8) C dL_cell_8 (fun v1 => ?_)
    refine j_goto (pc := 9) C dL_cell_9 (tgt := 22) (by decide) ?_
    refine j_loc [0] rfl ?_
    exact t_L_cell_b22 (κ := ks9 κ 0) C  (lq_st hk (by omega)) v1 M
def f_L_cell (z : Sh9) (L : Nat) (xs : Nat → Int32) (a1 : Int32) (M : Mem9) : Re9 := f_L_cell_b0 z L xs a1 M
theorem sp_L_cell {l : Launch} {z : Sh9} {sb L : Nat} {xs : Nat → Int32} {D : va_G} {ca : Nat → ClassId}  {a1 : Int32} {M : Mem9} {o : Out9 × Mem9} (hl : l.stackTraces = false) (h : f_L_cell z L xs a1 M = some o) : Sp9 l z (sb, L, xs, D, ca) yL_cell (Cond.code yL_cell cL_cell 2 (some .int)) 0 [.ref sb, .int a1] M (0, 6 * 0) o :=
  sp9_ofQ (rk := 1) (own := RL) (c9 := 0) (by decide +kernel) rfl (Or.inr (Or.inl ⟨rfl, rfl⟩)) hl (Nat.le_of_ble_eq_true rfl) (fun X C => t_L_cell_b0 (κ := (0, 0)) C ⟨Nat.le_of_eq (Nat.zero_add _), Nat.le_of_eq (Nat.zero_add _)⟩ a1 M) h
def f_L_holds_b492 (z : Sh9)  (x0 : Nat) (x2 : Int32) (x3 : Int32) (x4 : Int32) (x5 : Int32) (M : Mem9) : Re9 :=
  (if x5 = 0 then (rz9 (0 : Int32) M) else (bi9 (f_L_call z x0 (2 : Int32) (2 : Int32) (0 : Int32) (0 : Int32) M) fun v30 M29 => (if v30 = x2 then (bi9 (f_L_call z x0 (2 : Int32) (7 : Int32) (0 : Int32) (0 : Int32) M29) fun v32 M31 => (if v32 = x3 then (bi9 (f_L_call z x0 (2 : Int32) (8 : Int32) (0 : Int32) (0 : Int32) M31) fun v34 M33 => (if v34 = x4 then (bi9 (f_L_call z x0 (2 : Int32) (3 : Int32) (0 : Int32) (0 : Int32) M33) fun v36 M35 => (bi9 (f_L_call z x0 (2 : Int32) (4 : Int32) (0 : Int32) (0 : Int32) M35) fun v38 M37 => (bi9 (f_L_call z x0 (2 : Int32) (5 : Int32) (0 : Int32) (0 : Int32) M37) fun v40 M39 => (if (v38 + v40) < v36 then (rz9 (0 : Int32) M39) else (bi9 (f_L_call z x0 (2 : Int32) (6 : Int32) (0 : Int32) (0 : Int32) M39) fun v42 M41 => (if v42 < x3 then (rz9 (0 : Int32) M41) else (rz9 (1 : Int32) M41))))))) else (rz9 (0 : Int32) M33))) else (rz9 (0 : Int32) M31))) else (rz9 (0 : Int32) M29))))
set_option maxRecDepth 20000 in
set_option maxHeartbeats 4000000 in
theorem t_L_holds_b492 {z : Sh9} {N : Nv9} {X : Cx9} {out : Out9 × Mem9} {κ : Ka9} (C : OK9 z N X out 15 (3050, 6 * 3050) cL_holds RL 11 2 [])  (hk : lq9 κ (7) (3050, 6 * 3050)) (x0 : Nat) (x2 : Int32) (x3 : Int32) (x4 : Int32) (x5 : Int32) (M : Mem9) : J9 z N X out 15 492 [(0, .ref x0), (2, .int x2), (3, .int x3), (4, .int x4), (5, .int x5)] [] M κ (f_L_holds_b492 z  x0 x2 x3 x4 x5 M) := by
  refine j_ks0 ?_
  refine j_iload (pc := 492) C dL_holds_492 rfl ?_
  refine j_if_eq (pc := 494) C dL_holds_494 (tgt := 581) (by decide) (fun hc48 => ?_) (fun hc48 => ?_)
  · refine j_iconst (pc := 581) C dL_holds_581 (v := 0) rfl ?_
    exact j_zreturn (pc := 582) C rfl dL_holds_582 (lq_end hk (by omega))
  · refine j_aload_n (pc := 497) C dL_holds_497 rfl ?_
    refine j_iconst (pc := 498) C dL_holds_498 (v := 2) rfl ?_
    refine j_iconst (pc := 499) C dL_holds_499 (v := 2) rfl ?_
    refine j_iconst (pc := 500) C dL_holds_500 (v := 0) rfl ?_
    refine j_iconst (pc := 501) C dL_holds_501 (v := 0) rfl ?_
    refine j_callQS (pc := 502) (κ := ks9 κ 0) (κ1 := ks9 κ 1) (c := 1) C rfl dL_holds_502 ls_L_160 rfl (Nat.le_of_ble_eq_true rfl) (Nat.le_of_ble_eq_true rfl) (by decide) (ks_add rfl) (lq_le hk (by omega)) (fun l hl o ho => sp_L_call hl ho) (fun v30 M29 => ?_)
    refine j_iload_n (pc := 505) C dL_holds_505 rfl ?_
    refine j_icmp_ne (pc := 506) C dL_holds_506 (tgt := 581) (by decide) (fun hc47 => ?_) (fun hc47 => ?_)
    · refine j_iconst (pc := 581) C dL_holds_581 (v := 0) rfl ?_
      exact j_zreturn (pc := 582) C rfl dL_holds_582 (lq_end hk (by omega))
    · refine j_aload_n (pc := 509) C dL_holds_509 rfl ?_
      refine j_iconst (pc := 510) C dL_holds_510 (v := 2) rfl ?_
      refine j_bipush (pc := 511) C dL_holds_511 (v := 7) rfl ?_
      refine j_iconst (pc := 513) C dL_holds_513 (v := 0) rfl ?_
      refine j_iconst (pc := 514) C dL_holds_514 (v := 0) rfl ?_
      refine j_callQS (pc := 515) (κ := ks9 κ 1) (κ1 := ks9 κ 2) (c := 1) C rfl dL_holds_515 ls_L_160 rfl (Nat.le_of_ble_eq_true rfl) (Nat.le_of_ble_eq_true rfl) (by decide) (ks_add rfl) (lq_le hk (by omega)) (fun l hl o ho => sp_L_call hl ho) (fun v32 M31 => ?_)
      refine j_iload_n (pc := 518) C dL_holds_518 rfl ?_
      refine j_icmp_ne (pc := 519) C dL_holds_519 (tgt := 581) (by decide) (fun hc46 => ?_) (fun hc46 => ?_)
      · refine j_iconst (pc := 581) C dL_holds_581 (v := 0) rfl ?_
        exact j_zreturn (pc := 582) C rfl dL_holds_582 (lq_end hk (by omega))
      · refine j_aload_n (pc := 522) C dL_holds_522 rfl ?_
        refine j_iconst (pc := 523) C dL_holds_523 (v := 2) rfl ?_
        refine j_bipush (pc := 524) C dL_holds_524 (v := 8) rfl ?_
        refine j_iconst (pc := 526) C dL_holds_526 (v := 0) rfl ?_
        refine j_iconst (pc := 527) C dL_holds_527 (v := 0) rfl ?_
        refine j_callQS (pc := 528) (κ := ks9 κ 2) (κ1 := ks9 κ 3) (c := 1) C rfl dL_holds_528 ls_L_160 rfl (Nat.le_of_ble_eq_true rfl) (Nat.le_of_ble_eq_true rfl) (by decide) (ks_add rfl) (lq_le hk (by omega)) (fun l hl o ho => sp_L_call hl ho) (fun v34 M33 => ?_)
        refine j_iload (pc := 531) C dL_holds_531 rfl ?_
        refine j_icmp_ne (pc := 533) C dL_holds_533 (tgt := 581) (by decide) (fun hc45 => ?_) (fun hc45 => ?_)
        · refine j_iconst (pc := 581) C dL_holds_581 (v := 0) rfl ?_
          exact j_zreturn (pc := 582) C rfl dL_holds_582 (lq_end hk (by omega))
        · refine j_aload_n (pc := 536) C dL_holds_536 rfl ?_
          refine j_iconst (pc := 537) C dL_holds_537 (v := 2) rfl ?_
          refine j_iconst (pc := 538) C dL_holds_538 (v := 3) rfl ?_
          refine j_iconst (pc := 539) C dL_holds_539 (v := 0) rfl ?_
          refine j_iconst (pc := 540) C dL_holds_540 (v := 0) rfl ?_
          refine j_callQS (pc := 541) (κ := ks9 κ 3) (κ1 := ks9 κ 4) (c := 1) C rfl dL_holds_541 ls_L_160 rfl (Nat.le_of_ble_eq_true rfl) (Nat.le_of_ble_eq_true rfl) (by decide) (ks_add rfl) (lq_le hk (by omega)) (fun l hl o ho => sp_L_call hl ho) (fun v36 M35 => ?_)
          refine j_aload_n (pc := 544) C dL_holds_544 rfl ?_
          refine j_iconst (pc := 545) C dL_holds_545 (v := 2) rfl ?_
          refine j_iconst (pc := 546) C dL_holds_546 (v := 4) rfl ?_
          refine j_iconst (pc := 547) C dL_holds_547 (v := 0) rfl ?_
          refine j_iconst (pc := 548) C dL_holds_548 (v := 0) rfl ?_
          refine j_callQS (pc := 549) (κ := ks9 κ 4) (κ1 := ks9 κ 5) (c := 1) C rfl dL_holds_549 ls_L_160 rfl (Nat.le_of_ble_eq_true rfl) (Nat.le_of_ble_eq_true rfl) (by decide) (ks_add rfl) (lq_le hk (by omega)) (fun l hl o ho => sp_L_call hl ho) (fun v38 M37 => ?_)
          refine j_aload_n (pc := 552) C dL_holds_552 rfl ?_
          refine j_iconst (pc := 553) C dL_holds_553 (v := 2) rfl ?_
          refine j_iconst (pc := 554) C dL_holds_554 (v := 5) rfl ?_
          refine j_iconst (pc := 555) C dL_holds_555 (v := 0) rfl ?_
          refine j_iconst (pc := 556) C dL_holds_556 (v := 0) rfl ?_
          refine j_callQS (pc := 557) (κ := ks9 κ 5) (κ1 := ks9 κ 6) (c := 1) C rfl dL_holds_557 ls_L_160 rfl (Nat.le_of_ble_eq_true rfl) (Nat.le_of_ble_eq_true rfl) (by decide) (ks_add rfl) (lq_le hk (by omega)) (fun l hl o ho => sp_L_call hl ho) (fun v40 M39 => ?_)
          refine j_iadd (pc := 560) C dL_holds_560 ?_
          refine j_icmp_gt (pc := 561) C dL_holds_561 (tgt := 581) (by decide) (fun hc44 => ?_) (fun hc44 => ?_)
          · refine j_iconst (pc := 581) C dL_holds_581 (v := 0) rfl ?_
            exact j_zreturn (pc := 582) C rfl dL_holds_582 (lq_end hk (by omega))
          · refine j_aload_n (pc := 564) C dL_holds_564 rfl ?_
            refine j_iconst (pc := 565) C dL_holds_565 (v := 2) rfl ?_
            refine j_bipush (pc := 566) C dL_holds_566 (v := 6) rfl ?_
            refine j_iconst (pc := 568) C dL_holds_568 (v := 0) rfl ?_
            refine j_iconst (pc := 569) C dL_holds_569 (v := 0) rfl ?_
            refine j_callQS (pc := 570) (κ := ks9 κ 6) (κ1 := ks9 κ 7) (c := 1) C rfl dL_holds_570 ls_L_160 rfl (Nat.le_of_ble_eq_true rfl) (Nat.le_of_ble_eq_true rfl) (by decide) (ks_add rfl) (lq_le hk (by omega)) (fun l hl o ho => sp_L_call hl ho) (fun v42 M41 => ?_)
            refine j_iload_n (pc := 573) C dL_holds_573 rfl ?_
            refine j_icmp_lt (pc := 574) C dL_holds_574 (tgt := 581) (by decide) (fun hc43 => ?_) (fun hc43 => ?_)
            · refine j_iconst (pc := 581) C dL_holds_581 (v := 0) rfl ?_
              exact j_zreturn (pc := 582) C rfl dL_holds_582 (lq_end hk (by omega))
            · refine j_iconst (pc := 577) C dL_holds_577 (v := 1) rfl ?_
              refine j_goto (pc := 578) C dL_holds_578 (tgt := 582) (by decide) ?_
              exact j_zreturn (pc := 582) C rfl dL_holds_582 (lq_end hk (by omega))
def f_L_holds_b484 (z : Sh9) (r31 : Nat → Int32 → Int32 → Int32 → Int32 → Int32 → Int32 → Mem9 → Re9) (x0 : Nat) (x1 : Int32) (x2 : Int32) (x3 : Int32) (x4 : Int32) (x6 : Int32) (s0 : Int32) (M : Mem9) : Re9 :=
  (r31 x0 x1 x2 x3 x4 s0 (x6 + (1 : Int32)) M)
set_option maxRecDepth 20000 in
set_option maxHeartbeats 4000000 in
theorem t_L_holds_b484 {z : Sh9} {N : Nv9} {X : Cx9} {out : Out9 × Mem9} {κ : Ka9} (C : OK9 z N X out 15 (3050, 6 * 3050) cL_holds RL 11 2 []) {E31 : Nat} {r31 : Nat → Int32 → Int32 → Int32 → Int32 → Int32 → Int32 → Mem9 → Re9} (g31 : 7 ≤ E31) (h31 : ∀ κ2 : Ka9, lq9 κ2 E31 (3050, 6 * 3050) → ∀ (x0 : Nat) (x1 : Int32) (x2 : Int32) (x3 : Int32) (x4 : Int32) (x5 : Int32) (x6 : Int32) (M : Mem9), J9 z N X out 15 31 [(0, .ref x0), (1, .int x1), (2, .int x2), (3, .int x3), (4, .int x4), (5, .int x5), (6, .int x6)] [] M κ2 (r31 x0 x1 x2 x3 x4 x5 x6 M)) (hk : lq9 κ (0 + E31) (3050, 6 * 3050)) (x0 : Nat) (x1 : Int32) (x2 : Int32) (x3 : Int32) (x4 : Int32) (x6 : Int32) (s0 : Int32) (M : Mem9) : J9 z N X out 15 484 [(0, .ref x0), (1, .int x1), (2, .int x2), (3, .int x3), (4, .int x4), (6, .int x6)] [.int s0] M κ (f_L_holds_b484 z r31 x0 x1 x2 x3 x4 x6 s0 M) := by
  refine j_ks0 ?_
  refine j_istore (pc := 484) C dL_holds_484 (Nat.le_of_ble_eq_true rfl) (ls' := [(5, .int s0), (0, .ref x0), (1, .int x1), (2, .int x2), (3, .int x3), (4, .int x4), (6, .int x6)]) rfl ?_
  refine j_iinc (pc := 486) C dL_holds_486 rfl (v := (x6 + (1 : Int32))) rfl (Nat.le_of_ble_eq_true rfl) (ls' := [(6, .int (x6 + (1 : Int32))), (5, .int s0), (0, .ref x0), (1, .int x1), (2, .int x2), (3, .int x3), (4, .int x4)]) rfl ?_
  refine j_goto (pc := 489) C dL_holds_489 (tgt := 31) (by decide) ?_
  refine j_loc [2, 3, 4, 5, 6, 1, 0] rfl ?_
  exact h31 (ks9 κ 0) (lq_st hk (by omega)) x0 x1 x2 x3 x4 s0 (x6 + (1 : Int32)) M
def f_L_holds_b483 (z : Sh9) (r31 : Nat → Int32 → Int32 → Int32 → Int32 → Int32 → Int32 → Mem9 → Re9) (x0 : Nat) (x1 : Int32) (x2 : Int32) (x3 : Int32) (x4 : Int32) (x6 : Int32) (M : Mem9) : Re9 :=
  (f_L_holds_b484 z r31 x0 x1 x2 x3 x4 x6 (0 : Int32) M)
set_option maxRecDepth 20000 in
set_option maxHeartbeats 4000000 in
theorem t_L_holds_b483 {z : Sh9} {N : Nv9} {X : Cx9} {out : Out9 × Mem9} {κ : Ka9} (C : OK9 z N X out 15 (3050, 6 * 3050) cL_holds RL 11 2 []) {E31 : Nat} {r31 : Nat → Int32 → Int32 → Int32 → Int32 → Int32 → Int32 → Mem9 → Re9} (g31 : 7 ≤ E31) (h31 : ∀ κ2 : Ka9, lq9 κ2 E31 (3050, 6 * 3050) → ∀ (x0 : Nat) (x1 : Int32) (x2 : Int32) (x3 : Int32) (x4 : Int32) (x5 : Int32) (x6 : Int32) (M : Mem9), J9 z N X out 15 31 [(0, .ref x0), (1, .int x1), (2, .int x2), (3, .int x3), (4, .int x4), (5, .int x5), (6, .int x6)] [] M κ2 (r31 x0 x1 x2 x3 x4 x5 x6 M)) (hk : lq9 κ (0 + E31) (3050, 6 * 3050)) (x0 : Nat) (x1 : Int32) (x2 : Int32) (x3 : Int32) (x4 : Int32) (x6 : Int32) (M : Mem9) : J9 z N X out 15 483 [(0, .ref x0), (1, .int x1), (2, .int x2), (3, .int x3), (4, .int x4), (6, .int x6)] [] M κ (f_L_holds_b483 z r31 x0 x1 x2 x3 x4 x6 M) := by
  refine j_ks0 ?_
  refine j_iconst (pc := 483) C dL_holds_483 (v := 0) rfl ?_
  exact t_L_holds_b484 (κ := ks9 κ 0) C g31 h31 (lq_st hk (by omega)) x0 x1 x2 x3 x4 x6 (0 : Int32) M
def f_L_holds_b476 (z : Sh9) (r31 : Nat → Int32 → Int32 → Int32 → Int32 → Int32 → Int32 → Mem9 → Re9) (x0 : Nat) (x1 : Int32) (x2 : Int32) (x3 : Int32) (x4 : Int32) (x6 : Int32) (s0 : Int32) (s1 : Int32) (M : Mem9) : Re9 :=
  (if s1 = s0 then (f_L_holds_b484 z r31 x0 x1 x2 x3 x4 x6 (1 : Int32) M) else (f_L_holds_b483 z r31 x0 x1 x2 x3 x4 x6 M))
set_option maxRecDepth 20000 in
set_option maxHeartbeats 4000000 in
theorem t_L_holds_b476 {z : Sh9} {N : Nv9} {X : Cx9} {out : Out9 × Mem9} {κ : Ka9} (C : OK9 z N X out 15 (3050, 6 * 3050) cL_holds RL 11 2 []) {E31 : Nat} {r31 : Nat → Int32 → Int32 → Int32 → Int32 → Int32 → Int32 → Mem9 → Re9} (g31 : 7 ≤ E31) (h31 : ∀ κ2 : Ka9, lq9 κ2 E31 (3050, 6 * 3050) → ∀ (x0 : Nat) (x1 : Int32) (x2 : Int32) (x3 : Int32) (x4 : Int32) (x5 : Int32) (x6 : Int32) (M : Mem9), J9 z N X out 15 31 [(0, .ref x0), (1, .int x1), (2, .int x2), (3, .int x3), (4, .int x4), (5, .int x5), (6, .int x6)] [] M κ2 (r31 x0 x1 x2 x3 x4 x5 x6 M)) (hk : lq9 κ (0 + E31) (3050, 6 * 3050)) (x0 : Nat) (x1 : Int32) (x2 : Int32) (x3 : Int32) (x4 : Int32) (x6 : Int32) (s0 : Int32) (s1 : Int32) (M : Mem9) : J9 z N X out 15 476 [(0, .ref x0), (1, .int x1), (2, .int x2), (3, .int x3), (4, .int x4), (6, .int x6)] [.int s0, .int s1] M κ (f_L_holds_b476 z r31 x0 x1 x2 x3 x4 x6 s0 s1 M) := by
  refine j_ks0 ?_
  refine j_icmp_ne (pc := 476) C dL_holds_476 (tgt := 483) (by decide) (fun hc96 => ?_) (fun hc96 => ?_)
  · exact t_L_holds_b483 (κ := ks9 κ 0) C g31 h31 (lq_st hk (by omega)) x0 x1 x2 x3 x4 x6 M
  · refine j_iconst (pc := 479) C dL_holds_479 (v := 1) rfl ?_
    refine j_goto (pc := 480) C dL_holds_480 (tgt := 484) (by decide) ?_
    exact t_L_holds_b484 (κ := ks9 κ 0) C g31 h31 (lq_st hk (by omega)) x0 x1 x2 x3 x4 x6 (1 : Int32) M
def f_L_holds_b466 (z : Sh9) (r31 : Nat → Int32 → Int32 → Int32 → Int32 → Int32 → Int32 → Mem9 → Re9) (x0 : Nat) (x1 : Int32) (x2 : Int32) (x3 : Int32) (x4 : Int32) (x6 : Int32) (x7 : Int32) (s0 : Int32) (M : Mem9) : Re9 :=
  (if x7 = 0 then (f_L_holds_b476 z r31 x0 x1 x2 x3 x4 x6 (1 : Int32) s0 M) else (f_L_holds_b476 z r31 x0 x1 x2 x3 x4 x6 (0 : Int32) s0 M))
set_option maxRecDepth 20000 in
set_option maxHeartbeats 4000000 in
theorem t_L_holds_b466 {z : Sh9} {N : Nv9} {X : Cx9} {out : Out9 × Mem9} {κ : Ka9} (C : OK9 z N X out 15 (3050, 6 * 3050) cL_holds RL 11 2 []) {E31 : Nat} {r31 : Nat → Int32 → Int32 → Int32 → Int32 → Int32 → Int32 → Mem9 → Re9} (g31 : 7 ≤ E31) (h31 : ∀ κ2 : Ka9, lq9 κ2 E31 (3050, 6 * 3050) → ∀ (x0 : Nat) (x1 : Int32) (x2 : Int32) (x3 : Int32) (x4 : Int32) (x5 : Int32) (x6 : Int32) (M : Mem9), J9 z N X out 15 31 [(0, .ref x0), (1, .int x1), (2, .int x2), (3, .int x3), (4, .int x4), (5, .int x5), (6, .int x6)] [] M κ2 (r31 x0 x1 x2 x3 x4 x5 x6 M)) (hk : lq9 κ (0 + E31) (3050, 6 * 3050)) (x0 : Nat) (x1 : Int32) (x2 : Int32) (x3 : Int32) (x4 : Int32) (x6 : Int32) (x7 : Int32) (s0 : Int32) (M : Mem9) : J9 z N X out 15 466 [(0, .ref x0), (1, .int x1), (2, .int x2), (3, .int x3), (4, .int x4), (6, .int x6), (7, .int x7)] [.int s0] M κ (f_L_holds_b466 z r31 x0 x1 x2 x3 x4 x6 x7 s0 M) := by
  refine j_ks0 ?_
  refine j_iload (pc := 466) C dL_holds_466 rfl ?_
  refine j_if_ne (pc := 468) C dL_holds_468 (tgt := 475) (by decide) (fun hc95 => ?_) (fun hc95 => ?_)
  · refine j_iconst (pc := 475) C dL_holds_475 (v := 0) rfl ?_
    refine j_loc [0, 1, 2, 3, 4, 5] rfl ?_
    exact t_L_holds_b476 (κ := ks9 κ 0) C g31 h31 (lq_st hk (by omega)) x0 x1 x2 x3 x4 x6 (0 : Int32) s0 M
  · refine j_iconst (pc := 471) C dL_holds_471 (v := 1) rfl ?_
    refine j_goto (pc := 472) C dL_holds_472 (tgt := 476) (by decide) ?_
    refine j_loc [0, 1, 2, 3, 4, 5] rfl ?_
    exact t_L_holds_b476 (κ := ks9 κ 0) C g31 h31 (lq_st hk (by omega)) x0 x1 x2 x3 x4 x6 (1 : Int32) s0 M
def f_L_holds_b448 (z : Sh9) (r31 : Nat → Int32 → Int32 → Int32 → Int32 → Int32 → Int32 → Mem9 → Re9) (x0 : Nat) (x1 : Int32) (x2 : Int32) (x3 : Int32) (x4 : Int32) (x6 : Int32) (x7 : Int32) (M : Mem9) : Re9 :=
  (bi9 (f_L_call z x0 (12 : Int32) x6 (0 : Int32) (0 : Int32) M) fun v93 M92 => (if v93 = 0 then (f_L_holds_b466 z r31 x0 x1 x2 x3 x4 x6 x7 (1 : Int32) M92) else (f_L_holds_b466 z r31 x0 x1 x2 x3 x4 x6 x7 (0 : Int32) M92)))
set_option maxRecDepth 20000 in
set_option maxHeartbeats 4000000 in
theorem t_L_holds_b448 {z : Sh9} {N : Nv9} {X : Cx9} {out : Out9 × Mem9} {κ : Ka9} (C : OK9 z N X out 15 (3050, 6 * 3050) cL_holds RL 11 2 []) {E31 : Nat} {r31 : Nat → Int32 → Int32 → Int32 → Int32 → Int32 → Int32 → Mem9 → Re9} (g31 : 7 ≤ E31) (h31 : ∀ κ2 : Ka9, lq9 κ2 E31 (3050, 6 * 3050) → ∀ (x0 : Nat) (x1 : Int32) (x2 : Int32) (x3 : Int32) (x4 : Int32) (x5 : Int32) (x6 : Int32) (M : Mem9), J9 z N X out 15 31 [(0, .ref x0), (1, .int x1), (2, .int x2), (3, .int x3), (4, .int x4), (5, .int x5), (6, .int x6)] [] M κ2 (r31 x0 x1 x2 x3 x4 x5 x6 M)) (hk : lq9 κ (1 + E31) (3050, 6 * 3050)) (x0 : Nat) (x1 : Int32) (x2 : Int32) (x3 : Int32) (x4 : Int32) (x6 : Int32) (x7 : Int32) (M : Mem9) : J9 z N X out 15 448 [(0, .ref x0), (1, .int x1), (2, .int x2), (3, .int x3), (4, .int x4), (6, .int x6), (7, .int x7)] [] M κ (f_L_holds_b448 z r31 x0 x1 x2 x3 x4 x6 x7 M) := by
  refine j_ks0 ?_
  refine j_aload_n (pc := 448) C dL_holds_448 rfl ?_
  refine j_bipush (pc := 449) C dL_holds_449 (v := 12) rfl ?_
  refine j_iload (pc := 451) C dL_holds_451 rfl ?_
  refine j_iconst (pc := 453) C dL_holds_453 (v := 0) rfl ?_
  refine j_iconst (pc := 454) C dL_holds_454 (v := 0) rfl ?_
  refine j_callQS (pc := 455) (κ := ks9 κ 0) (κ1 := ks9 κ 1) (c := 1) C rfl dL_holds_455 ls_L_160 rfl (Nat.le_of_ble_eq_true rfl) (Nat.le_of_ble_eq_true rfl) (by decide) (ks_add rfl) (lq_le hk (by omega)) (fun l hl o ho => sp_L_call hl ho) (fun v93 M92 => ?_)
  refine j_if_ne (pc := 458) C dL_holds_458 (tgt := 465) (by decide) (fun hc94 => ?_) (fun hc94 => ?_)
  · refine j_iconst (pc := 465) C dL_holds_465 (v := 0) rfl ?_
    exact t_L_holds_b466 (κ := ks9 κ 1) C g31 h31 (lq_st hk (by omega)) x0 x1 x2 x3 x4 x6 x7 (0 : Int32) M92
  · refine j_iconst (pc := 461) C dL_holds_461 (v := 1) rfl ?_
    refine j_goto (pc := 462) C dL_holds_462 (tgt := 466) (by decide) ?_
    exact t_L_holds_b466 (κ := ks9 κ 1) C g31 h31 (lq_st hk (by omega)) x0 x1 x2 x3 x4 x6 x7 (1 : Int32) M92
def f_L_holds_b430 (z : Sh9) (r31 : Nat → Int32 → Int32 → Int32 → Int32 → Int32 → Int32 → Mem9 → Re9) (x0 : Nat) (x1 : Int32) (x2 : Int32) (x3 : Int32) (x4 : Int32) (x6 : Int32) (x7 : Int32) (x11 : Int32) (M : Mem9) : Re9 :=
  (if x11 = (2 : Int32) then (bi9 (f_L_call z x0 (3 : Int32) x6 (4 : Int32) (0 : Int32) M) fun v89 M88 => (if v89 = 0 then (f_L_holds_b448 z r31 x0 x1 x2 x3 x4 x6 x7 M88) else (f_L_holds_b483 z r31 x0 x1 x2 x3 x4 x6 M88))) else (f_L_holds_b448 z r31 x0 x1 x2 x3 x4 x6 x7 M))
set_option maxRecDepth 20000 in
set_option maxHeartbeats 4000000 in
theorem t_L_holds_b430 {z : Sh9} {N : Nv9} {X : Cx9} {out : Out9 × Mem9} {κ : Ka9} (C : OK9 z N X out 15 (3050, 6 * 3050) cL_holds RL 11 2 []) {E31 : Nat} {r31 : Nat → Int32 → Int32 → Int32 → Int32 → Int32 → Int32 → Mem9 → Re9} (g31 : 7 ≤ E31) (h31 : ∀ κ2 : Ka9, lq9 κ2 E31 (3050, 6 * 3050) → ∀ (x0 : Nat) (x1 : Int32) (x2 : Int32) (x3 : Int32) (x4 : Int32) (x5 : Int32) (x6 : Int32) (M : Mem9), J9 z N X out 15 31 [(0, .ref x0), (1, .int x1), (2, .int x2), (3, .int x3), (4, .int x4), (5, .int x5), (6, .int x6)] [] M κ2 (r31 x0 x1 x2 x3 x4 x5 x6 M)) (hk : lq9 κ (2 + E31) (3050, 6 * 3050)) (x0 : Nat) (x1 : Int32) (x2 : Int32) (x3 : Int32) (x4 : Int32) (x6 : Int32) (x7 : Int32) (x11 : Int32) (M : Mem9) : J9 z N X out 15 430 [(0, .ref x0), (1, .int x1), (2, .int x2), (3, .int x3), (4, .int x4), (6, .int x6), (7, .int x7), (11, .int x11)] [] M κ (f_L_holds_b430 z r31 x0 x1 x2 x3 x4 x6 x7 x11 M) := by
  refine j_ks0 ?_
  refine j_iload (pc := 430) C dL_holds_430 rfl ?_
  refine j_iconst (pc := 432) C dL_holds_432 (v := 2) rfl ?_
  refine j_icmp_ne (pc := 433) C dL_holds_433 (tgt := 448) (by decide) (fun hc91 => ?_) (fun hc91 => ?_)
  · refine j_loc [0, 1, 2, 3, 4, 5, 6] rfl ?_
    exact t_L_holds_b448 (κ := ks9 κ 0) C g31 h31 (lq_st hk (by omega)) x0 x1 x2 x3 x4 x6 x7 M
  · refine j_aload_n (pc := 436) C dL_holds_436 rfl ?_
    refine j_iconst (pc := 437) C dL_holds_437 (v := 3) rfl ?_
    refine j_iload (pc := 438) C dL_holds_438 rfl ?_
    refine j_iconst (pc := 440) C dL_holds_440 (v := 4) rfl ?_
    refine j_iconst (pc := 441) C dL_holds_441 (v := 0) rfl ?_
    refine j_callQS (pc := 442) (κ := ks9 κ 0) (κ1 := ks9 κ 1) (c := 1) C rfl dL_holds_442 ls_L_160 rfl (Nat.le_of_ble_eq_true rfl) (Nat.le_of_ble_eq_true rfl) (by decide) (ks_add rfl) (lq_le hk (by omega)) (fun l hl o ho => sp_L_call hl ho) (fun v89 M88 => ?_)
    refine j_if_ne (pc := 445) C dL_holds_445 (tgt := 483) (by decide) (fun hc90 => ?_) (fun hc90 => ?_)
    · refine j_loc [0, 1, 2, 3, 4, 5] rfl ?_
      exact t_L_holds_b483 (κ := ks9 κ 1) C g31 h31 (lq_st hk (by omega)) x0 x1 x2 x3 x4 x6 M88
    · refine j_loc [0, 1, 2, 3, 4, 5, 6] rfl ?_
      exact t_L_holds_b448 (κ := ks9 κ 1) C g31 h31 (lq_st hk (by omega)) x0 x1 x2 x3 x4 x6 x7 M88
def f_L_holds_b409 (z : Sh9) (r31 : Nat → Int32 → Int32 → Int32 → Int32 → Int32 → Int32 → Mem9 → Re9) (x0 : Nat) (x1 : Int32) (x2 : Int32) (x3 : Int32) (x4 : Int32) (x6 : Int32) (x7 : Int32) (x11 : Int32) (s0 : Int32) (s1 : Int32) (M : Mem9) : Re9 :=
  (if s1 = s0 then (if x11 = (3 : Int32) then (bi9 (f_L_call z x0 (3 : Int32) x6 (2 : Int32) (0 : Int32) M) fun v84 M83 => (if v84 ≤ 0 then (f_L_holds_b483 z r31 x0 x1 x2 x3 x4 x6 M83) else (f_L_holds_b430 z r31 x0 x1 x2 x3 x4 x6 x7 x11 M83))) else (f_L_holds_b430 z r31 x0 x1 x2 x3 x4 x6 x7 x11 M)) else (f_L_holds_b483 z r31 x0 x1 x2 x3 x4 x6 M))
set_option maxRecDepth 20000 in
set_option maxHeartbeats 4000000 in
theorem t_L_holds_b409 {z : Sh9} {N : Nv9} {X : Cx9} {out : Out9 × Mem9} {κ : Ka9} (C : OK9 z N X out 15 (3050, 6 * 3050) cL_holds RL 11 2 []) {E31 : Nat} {r31 : Nat → Int32 → Int32 → Int32 → Int32 → Int32 → Int32 → Mem9 → Re9} (g31 : 7 ≤ E31) (h31 : ∀ κ2 : Ka9, lq9 κ2 E31 (3050, 6 * 3050) → ∀ (x0 : Nat) (x1 : Int32) (x2 : Int32) (x3 : Int32) (x4 : Int32) (x5 : Int32) (x6 : Int32) (M : Mem9), J9 z N X out 15 31 [(0, .ref x0), (1, .int x1), (2, .int x2), (3, .int x3), (4, .int x4), (5, .int x5), (6, .int x6)] [] M κ2 (r31 x0 x1 x2 x3 x4 x5 x6 M)) (hk : lq9 κ (3 + E31) (3050, 6 * 3050)) (x0 : Nat) (x1 : Int32) (x2 : Int32) (x3 : Int32) (x4 : Int32) (x6 : Int32) (x7 : Int32) (x11 : Int32) (s0 : Int32) (s1 : Int32) (M : Mem9) : J9 z N X out 15 409 [(0, .ref x0), (1, .int x1), (2, .int x2), (3, .int x3), (4, .int x4), (6, .int x6), (7, .int x7), (11, .int x11)] [.int s0, .int s1] M κ (f_L_holds_b409 z r31 x0 x1 x2 x3 x4 x6 x7 x11 s0 s1 M) := by
  refine j_ks0 ?_
  refine j_icmp_ne (pc := 409) C dL_holds_409 (tgt := 483) (by decide) (fun hc87 => ?_) (fun hc87 => ?_)
  · refine j_loc [0, 1, 2, 3, 4, 5] rfl ?_
    exact t_L_holds_b483 (κ := ks9 κ 0) C g31 h31 (lq_st hk (by omega)) x0 x1 x2 x3 x4 x6 M
  · refine j_iload (pc := 412) C dL_holds_412 rfl ?_
    refine j_iconst (pc := 414) C dL_holds_414 (v := 3) rfl ?_
    refine j_icmp_ne (pc := 415) C dL_holds_415 (tgt := 430) (by decide) (fun hc86 => ?_) (fun hc86 => ?_)
    · exact t_L_holds_b430 (κ := ks9 κ 0) C g31 h31 (lq_st hk (by omega)) x0 x1 x2 x3 x4 x6 x7 x11 M
    · refine j_aload_n (pc := 418) C dL_holds_418 rfl ?_
      refine j_iconst (pc := 419) C dL_holds_419 (v := 3) rfl ?_
      refine j_iload (pc := 420) C dL_holds_420 rfl ?_
      refine j_iconst (pc := 422) C dL_holds_422 (v := 2) rfl ?_
      refine j_iconst (pc := 423) C dL_holds_423 (v := 0) rfl ?_
      refine j_callQS (pc := 424) (κ := ks9 κ 0) (κ1 := ks9 κ 1) (c := 1) C rfl dL_holds_424 ls_L_160 rfl (Nat.le_of_ble_eq_true rfl) (Nat.le_of_ble_eq_true rfl) (by decide) (ks_add rfl) (lq_le hk (by omega)) (fun l hl o ho => sp_L_call hl ho) (fun v84 M83 => ?_)
      refine j_if_le (pc := 427) C dL_holds_427 (tgt := 483) (by decide) (fun hc85 => ?_) (fun hc85 => ?_)
      · refine j_loc [0, 1, 2, 3, 4, 5] rfl ?_
        exact t_L_holds_b483 (κ := ks9 κ 1) C g31 h31 (lq_st hk (by omega)) x0 x1 x2 x3 x4 x6 M83
      · exact t_L_holds_b430 (κ := ks9 κ 1) C g31 h31 (lq_st hk (by omega)) x0 x1 x2 x3 x4 x6 x7 x11 M83
def f_L_holds_b391 (z : Sh9) (r31 : Nat → Int32 → Int32 → Int32 → Int32 → Int32 → Int32 → Mem9 → Re9) (x0 : Nat) (x1 : Int32) (x2 : Int32) (x3 : Int32) (x4 : Int32) (x6 : Int32) (x7 : Int32) (x11 : Int32) (s0 : Int32) (M : Mem9) : Re9 :=
  (bi9 (f_L_call z x0 (3 : Int32) x6 (5 : Int32) (0 : Int32) M) fun v81 M80 => (if v81 = (1 : Int32) then (f_L_holds_b409 z r31 x0 x1 x2 x3 x4 x6 x7 x11 (1 : Int32) s0 M80) else (f_L_holds_b409 z r31 x0 x1 x2 x3 x4 x6 x7 x11 (0 : Int32) s0 M80)))
set_option maxRecDepth 20000 in
set_option maxHeartbeats 4000000 in
theorem t_L_holds_b391 {z : Sh9} {N : Nv9} {X : Cx9} {out : Out9 × Mem9} {κ : Ka9} (C : OK9 z N X out 15 (3050, 6 * 3050) cL_holds RL 11 2 []) {E31 : Nat} {r31 : Nat → Int32 → Int32 → Int32 → Int32 → Int32 → Int32 → Mem9 → Re9} (g31 : 7 ≤ E31) (h31 : ∀ κ2 : Ka9, lq9 κ2 E31 (3050, 6 * 3050) → ∀ (x0 : Nat) (x1 : Int32) (x2 : Int32) (x3 : Int32) (x4 : Int32) (x5 : Int32) (x6 : Int32) (M : Mem9), J9 z N X out 15 31 [(0, .ref x0), (1, .int x1), (2, .int x2), (3, .int x3), (4, .int x4), (5, .int x5), (6, .int x6)] [] M κ2 (r31 x0 x1 x2 x3 x4 x5 x6 M)) (hk : lq9 κ (4 + E31) (3050, 6 * 3050)) (x0 : Nat) (x1 : Int32) (x2 : Int32) (x3 : Int32) (x4 : Int32) (x6 : Int32) (x7 : Int32) (x11 : Int32) (s0 : Int32) (M : Mem9) : J9 z N X out 15 391 [(0, .ref x0), (1, .int x1), (2, .int x2), (3, .int x3), (4, .int x4), (6, .int x6), (7, .int x7), (11, .int x11)] [.int s0] M κ (f_L_holds_b391 z r31 x0 x1 x2 x3 x4 x6 x7 x11 s0 M) := by
  refine j_ks0 ?_
  refine j_aload_n (pc := 391) C dL_holds_391 rfl ?_
  refine j_iconst (pc := 392) C dL_holds_392 (v := 3) rfl ?_
  refine j_iload (pc := 393) C dL_holds_393 rfl ?_
  refine j_iconst (pc := 395) C dL_holds_395 (v := 5) rfl ?_
  refine j_iconst (pc := 396) C dL_holds_396 (v := 0) rfl ?_
  refine j_callQS (pc := 397) (κ := ks9 κ 0) (κ1 := ks9 κ 1) (c := 1) C rfl dL_holds_397 ls_L_160 rfl (Nat.le_of_ble_eq_true rfl) (Nat.le_of_ble_eq_true rfl) (by decide) (ks_add rfl) (lq_le hk (by omega)) (fun l hl o ho => sp_L_call hl ho) (fun v81 M80 => ?_)
  refine j_iconst (pc := 400) C dL_holds_400 (v := 1) rfl ?_
  refine j_icmp_ne (pc := 401) C dL_holds_401 (tgt := 408) (by decide) (fun hc82 => ?_) (fun hc82 => ?_)
  · refine j_iconst (pc := 408) C dL_holds_408 (v := 0) rfl ?_
    exact t_L_holds_b409 (κ := ks9 κ 1) C g31 h31 (lq_st hk (by omega)) x0 x1 x2 x3 x4 x6 x7 x11 (0 : Int32) s0 M80
  · refine j_iconst (pc := 404) C dL_holds_404 (v := 1) rfl ?_
    refine j_goto (pc := 405) C dL_holds_405 (tgt := 409) (by decide) ?_
    exact t_L_holds_b409 (κ := ks9 κ 1) C g31 h31 (lq_st hk (by omega)) x0 x1 x2 x3 x4 x6 x7 x11 (1 : Int32) s0 M80
def f_L_holds_b377 (z : Sh9) (r31 : Nat → Int32 → Int32 → Int32 → Int32 → Int32 → Int32 → Mem9 → Re9) (x0 : Nat) (x1 : Int32) (x2 : Int32) (x3 : Int32) (x4 : Int32) (x6 : Int32) (x7 : Int32) (x11 : Int32) (s0 : Int32) (s1 : Int32) (M : Mem9) : Re9 :=
  (if s1 = s0 then (if x11 = (4 : Int32) then (f_L_holds_b391 z r31 x0 x1 x2 x3 x4 x6 x7 x11 (1 : Int32) M) else (f_L_holds_b391 z r31 x0 x1 x2 x3 x4 x6 x7 x11 (0 : Int32) M)) else (f_L_holds_b483 z r31 x0 x1 x2 x3 x4 x6 M))
set_option maxRecDepth 20000 in
set_option maxHeartbeats 4000000 in
theorem t_L_holds_b377 {z : Sh9} {N : Nv9} {X : Cx9} {out : Out9 × Mem9} {κ : Ka9} (C : OK9 z N X out 15 (3050, 6 * 3050) cL_holds RL 11 2 []) {E31 : Nat} {r31 : Nat → Int32 → Int32 → Int32 → Int32 → Int32 → Int32 → Mem9 → Re9} (g31 : 7 ≤ E31) (h31 : ∀ κ2 : Ka9, lq9 κ2 E31 (3050, 6 * 3050) → ∀ (x0 : Nat) (x1 : Int32) (x2 : Int32) (x3 : Int32) (x4 : Int32) (x5 : Int32) (x6 : Int32) (M : Mem9), J9 z N X out 15 31 [(0, .ref x0), (1, .int x1), (2, .int x2), (3, .int x3), (4, .int x4), (5, .int x5), (6, .int x6)] [] M κ2 (r31 x0 x1 x2 x3 x4 x5 x6 M)) (hk : lq9 κ (4 + E31) (3050, 6 * 3050)) (x0 : Nat) (x1 : Int32) (x2 : Int32) (x3 : Int32) (x4 : Int32) (x6 : Int32) (x7 : Int32) (x11 : Int32) (s0 : Int32) (s1 : Int32) (M : Mem9) : J9 z N X out 15 377 [(0, .ref x0), (1, .int x1), (2, .int x2), (3, .int x3), (4, .int x4), (6, .int x6), (7, .int x7), (11, .int x11)] [.int s0, .int s1] M κ (f_L_holds_b377 z r31 x0 x1 x2 x3 x4 x6 x7 x11 s0 s1 M) := by
  refine j_ks0 ?_
  refine j_icmp_ne (pc := 377) C dL_holds_377 (tgt := 483) (by decide) (fun hc78 => ?_) (fun hc78 => ?_)
  · refine j_loc [0, 1, 2, 3, 4, 5] rfl ?_
    exact t_L_holds_b483 (κ := ks9 κ 0) C g31 h31 (lq_st hk (by omega)) x0 x1 x2 x3 x4 x6 M
  · refine j_iload (pc := 380) C dL_holds_380 rfl ?_
    refine j_iconst (pc := 382) C dL_holds_382 (v := 4) rfl ?_
    refine j_icmp_ne (pc := 383) C dL_holds_383 (tgt := 390) (by decide) (fun hc77 => ?_) (fun hc77 => ?_)
    · refine j_iconst (pc := 390) C dL_holds_390 (v := 0) rfl ?_
      exact t_L_holds_b391 (κ := ks9 κ 0) C g31 h31 (lq_st hk (by omega)) x0 x1 x2 x3 x4 x6 x7 x11 (0 : Int32) M
    · refine j_iconst (pc := 386) C dL_holds_386 (v := 1) rfl ?_
      refine j_goto (pc := 387) C dL_holds_387 (tgt := 391) (by decide) ?_
      exact t_L_holds_b391 (κ := ks9 κ 0) C g31 h31 (lq_st hk (by omega)) x0 x1 x2 x3 x4 x6 x7 x11 (1 : Int32) M
def f_L_holds_b366 (z : Sh9) (r31 : Nat → Int32 → Int32 → Int32 → Int32 → Int32 → Int32 → Mem9 → Re9) (x0 : Nat) (x1 : Int32) (x2 : Int32) (x3 : Int32) (x4 : Int32) (x6 : Int32) (x7 : Int32) (x10 : Int32) (x11 : Int32) (s0 : Int32) (M : Mem9) : Re9 :=
  (if x10 = (1 : Int32) then (f_L_holds_b377 z r31 x0 x1 x2 x3 x4 x6 x7 x11 (1 : Int32) s0 M) else (f_L_holds_b377 z r31 x0 x1 x2 x3 x4 x6 x7 x11 (0 : Int32) s0 M))
set_option maxRecDepth 20000 in
set_option maxHeartbeats 4000000 in
theorem t_L_holds_b366 {z : Sh9} {N : Nv9} {X : Cx9} {out : Out9 × Mem9} {κ : Ka9} (C : OK9 z N X out 15 (3050, 6 * 3050) cL_holds RL 11 2 []) {E31 : Nat} {r31 : Nat → Int32 → Int32 → Int32 → Int32 → Int32 → Int32 → Mem9 → Re9} (g31 : 7 ≤ E31) (h31 : ∀ κ2 : Ka9, lq9 κ2 E31 (3050, 6 * 3050) → ∀ (x0 : Nat) (x1 : Int32) (x2 : Int32) (x3 : Int32) (x4 : Int32) (x5 : Int32) (x6 : Int32) (M : Mem9), J9 z N X out 15 31 [(0, .ref x0), (1, .int x1), (2, .int x2), (3, .int x3), (4, .int x4), (5, .int x5), (6, .int x6)] [] M κ2 (r31 x0 x1 x2 x3 x4 x5 x6 M)) (hk : lq9 κ (4 + E31) (3050, 6 * 3050)) (x0 : Nat) (x1 : Int32) (x2 : Int32) (x3 : Int32) (x4 : Int32) (x6 : Int32) (x7 : Int32) (x10 : Int32) (x11 : Int32) (s0 : Int32) (M : Mem9) : J9 z N X out 15 366 [(0, .ref x0), (1, .int x1), (2, .int x2), (3, .int x3), (4, .int x4), (6, .int x6), (7, .int x7), (10, .int x10), (11, .int x11)] [.int s0] M κ (f_L_holds_b366 z r31 x0 x1 x2 x3 x4 x6 x7 x10 x11 s0 M) := by
  refine j_ks0 ?_
  refine j_iload (pc := 366) C dL_holds_366 rfl ?_
  refine j_iconst (pc := 368) C dL_holds_368 (v := 1) rfl ?_
  refine j_icmp_ne (pc := 369) C dL_holds_369 (tgt := 376) (by decide) (fun hc71 => ?_) (fun hc71 => ?_)
  · refine j_iconst (pc := 376) C dL_holds_376 (v := 0) rfl ?_
    refine j_loc [0, 1, 2, 3, 4, 5, 6, 8] rfl ?_
    exact t_L_holds_b377 (κ := ks9 κ 0) C g31 h31 (lq_st hk (by omega)) x0 x1 x2 x3 x4 x6 x7 x11 (0 : Int32) s0 M
  · refine j_iconst (pc := 372) C dL_holds_372 (v := 1) rfl ?_
    refine j_goto (pc := 373) C dL_holds_373 (tgt := 377) (by decide) ?_
    refine j_loc [0, 1, 2, 3, 4, 5, 6, 8] rfl ?_
    exact t_L_holds_b377 (κ := ks9 κ 0) C g31 h31 (lq_st hk (by omega)) x0 x1 x2 x3 x4 x6 x7 x11 (1 : Int32) s0 M
def f_L_holds_b332 (z : Sh9) (r31 : Nat → Int32 → Int32 → Int32 → Int32 → Int32 → Int32 → Mem9 → Re9) (x0 : Nat) (x1 : Int32) (x2 : Int32) (x3 : Int32) (x4 : Int32) (x5 : Int32) (x6 : Int32) (x7 : Int32) (x10 : Int32) (M : Mem9) : Re9 :=
  (bi9 (f_L_call z x0 (5 : Int32) x6 (0 : Int32) (0 : Int32) M) fun v60 M59 => (if x5 = 0 then (f_L_holds_b483 z r31 x0 x1 x2 x3 x4 x6 M59) else (bi9 (f_L_call z x0 (3 : Int32) x6 (6 : Int32) (0 : Int32) M59) fun v62 M61 => (if v62 ≤ 0 then (f_L_holds_b366 z r31 x0 x1 x2 x3 x4 x6 x7 x10 v60 (0 : Int32) M61) else (f_L_holds_b366 z r31 x0 x1 x2 x3 x4 x6 x7 x10 v60 (1 : Int32) M61)))))
set_option maxRecDepth 20000 in
set_option maxHeartbeats 4000000 in
theorem t_L_holds_b332 {z : Sh9} {N : Nv9} {X : Cx9} {out : Out9 × Mem9} {κ : Ka9} (C : OK9 z N X out 15 (3050, 6 * 3050) cL_holds RL 11 2 []) {E31 : Nat} {r31 : Nat → Int32 → Int32 → Int32 → Int32 → Int32 → Int32 → Mem9 → Re9} (g31 : 7 ≤ E31) (h31 : ∀ κ2 : Ka9, lq9 κ2 E31 (3050, 6 * 3050) → ∀ (x0 : Nat) (x1 : Int32) (x2 : Int32) (x3 : Int32) (x4 : Int32) (x5 : Int32) (x6 : Int32) (M : Mem9), J9 z N X out 15 31 [(0, .ref x0), (1, .int x1), (2, .int x2), (3, .int x3), (4, .int x4), (5, .int x5), (6, .int x6)] [] M κ2 (r31 x0 x1 x2 x3 x4 x5 x6 M)) (hk : lq9 κ (6 + E31) (3050, 6 * 3050)) (x0 : Nat) (x1 : Int32) (x2 : Int32) (x3 : Int32) (x4 : Int32) (x5 : Int32) (x6 : Int32) (x7 : Int32) (x10 : Int32) (M : Mem9) : J9 z N X out 15 332 [(0, .ref x0), (1, .int x1), (2, .int x2), (3, .int x3), (4, .int x4), (5, .int x5), (6, .int x6), (7, .int x7), (10, .int x10)] [] M κ (f_L_holds_b332 z r31 x0 x1 x2 x3 x4 x5 x6 x7 x10 M) := by
  refine j_ks0 ?_
  refine j_aload_n (pc := 332) C dL_holds_332 rfl ?_
  refine j_iconst (pc := 333) C dL_holds_333 (v := 5) rfl ?_
  refine j_iload (pc := 334) C dL_holds_334 rfl ?_
  refine j_iconst (pc := 336) C dL_holds_336 (v := 0) rfl ?_
  refine j_iconst (pc := 337) C dL_holds_337 (v := 0) rfl ?_
  refine j_callQS (pc := 338) (κ := ks9 κ 0) (κ1 := ks9 κ 1) (c := 1) C rfl dL_holds_338 ls_L_160 rfl (Nat.le_of_ble_eq_true rfl) (Nat.le_of_ble_eq_true rfl) (by decide) (ks_add rfl) (lq_le hk (by omega)) (fun l hl o ho => sp_L_call hl ho) (fun v60 M59 => ?_)
  refine j_istore (pc := 341) C dL_holds_341 (Nat.le_of_ble_eq_true rfl) (ls' := [(11, .int v60), (0, .ref x0), (1, .int x1), (2, .int x2), (3, .int x3), (4, .int x4), (5, .int x5), (6, .int x6), (7, .int x7), (10, .int x10)]) rfl ?_
  refine j_iload (pc := 343) C dL_holds_343 rfl ?_
  refine j_if_eq (pc := 345) C dL_holds_345 (tgt := 483) (by decide) (fun hc64 => ?_) (fun hc64 => ?_)
  · refine j_loc [1, 2, 3, 4, 5, 7] rfl ?_
    exact t_L_holds_b483 (κ := ks9 κ 1) C g31 h31 (lq_st hk (by omega)) x0 x1 x2 x3 x4 x6 M59
  · refine j_aload_n (pc := 348) C dL_holds_348 rfl ?_
    refine j_iconst (pc := 349) C dL_holds_349 (v := 3) rfl ?_
    refine j_iload (pc := 350) C dL_holds_350 rfl ?_
    refine j_bipush (pc := 352) C dL_holds_352 (v := 6) rfl ?_
    refine j_iconst (pc := 354) C dL_holds_354 (v := 0) rfl ?_
    refine j_callQS (pc := 355) (κ := ks9 κ 1) (κ1 := ks9 κ 2) (c := 1) C rfl dL_holds_355 ls_L_160 rfl (Nat.le_of_ble_eq_true rfl) (Nat.le_of_ble_eq_true rfl) (by decide) (ks_add rfl) (lq_le hk (by omega)) (fun l hl o ho => sp_L_call hl ho) (fun v62 M61 => ?_)
    refine j_if_le (pc := 358) C dL_holds_358 (tgt := 365) (by decide) (fun hc63 => ?_) (fun hc63 => ?_)
    · refine j_iconst (pc := 365) C dL_holds_365 (v := 0) rfl ?_
      refine j_loc [1, 2, 3, 4, 5, 7, 8, 9, 0] rfl ?_
      exact t_L_holds_b366 (κ := ks9 κ 2) C g31 h31 (lq_st hk (by omega)) x0 x1 x2 x3 x4 x6 x7 x10 v60 (0 : Int32) M61
    · refine j_iconst (pc := 361) C dL_holds_361 (v := 1) rfl ?_
      refine j_goto (pc := 362) C dL_holds_362 (tgt := 366) (by decide) ?_
      refine j_loc [1, 2, 3, 4, 5, 7, 8, 9, 0] rfl ?_
      exact t_L_holds_b366 (κ := ks9 κ 2) C g31 h31 (lq_st hk (by omega)) x0 x1 x2 x3 x4 x6 x7 x10 v60 (1 : Int32) M61
def f_L_holds_b315 (z : Sh9) (r31 : Nat → Int32 → Int32 → Int32 → Int32 → Int32 → Int32 → Mem9 → Re9) (r171 : Nat → Int32 → Int32 → Int32 → Int32 → Int32 → Int32 → Int32 → Int32 → Int32 → Int32 → Mem9 → Re9) (x0 : Nat) (x1 : Int32) (x2 : Int32) (x3 : Int32) (x4 : Int32) (x6 : Int32) (x7 : Int32) (x10 : Int32) (x11 : Int32) (x12 : Int32) (x13 : Int32) (s0 : Int32) (M : Mem9) : Re9 :=
  (nm9 ((x13 - x12) + (1 : Int32)) fun (y79 : Int32) => (r171 x0 x1 x2 x3 x4 s0 x6 x7 y79 x10 (x11 + (1 : Int32)) M))
set_option maxRecDepth 20000 in
set_option maxHeartbeats 4000000 in
theorem t_L_holds_b315 {z : Sh9} {N : Nv9} {X : Cx9} {out : Out9 × Mem9} {κ : Ka9} (C : OK9 z N X out 15 (3050, 6 * 3050) cL_holds RL 11 2 []) {E31 : Nat} {r31 : Nat → Int32 → Int32 → Int32 → Int32 → Int32 → Int32 → Mem9 → Re9} (g31 : 7 ≤ E31) (h31 : ∀ κ2 : Ka9, lq9 κ2 E31 (3050, 6 * 3050) → ∀ (x0 : Nat) (x1 : Int32) (x2 : Int32) (x3 : Int32) (x4 : Int32) (x5 : Int32) (x6 : Int32) (M : Mem9), J9 z N X out 15 31 [(0, .ref x0), (1, .int x1), (2, .int x2), (3, .int x3), (4, .int x4), (5, .int x5), (6, .int x6)] [] M κ2 (r31 x0 x1 x2 x3 x4 x5 x6 M)) {E171 : Nat} {r171 : Nat → Int32 → Int32 → Int32 → Int32 → Int32 → Int32 → Int32 → Int32 → Int32 → Int32 → Mem9 → Re9} (g171 : 6 + E31 ≤ E171) (h171 : ∀ κ2 : Ka9, lq9 κ2 E171 (3050, 6 * 3050) → ∀ (x0 : Nat) (x1 : Int32) (x2 : Int32) (x3 : Int32) (x4 : Int32) (x5 : Int32) (x6 : Int32) (x7 : Int32) (x9 : Int32) (x10 : Int32) (x11 : Int32) (M : Mem9), J9 z N X out 15 171 [(0, .ref x0), (1, .int x1), (2, .int x2), (3, .int x3), (4, .int x4), (5, .int x5), (6, .int x6), (7, .int x7), (9, .int x9), (10, .int x10), (11, .int x11)] [] M κ2 (r171 x0 x1 x2 x3 x4 x5 x6 x7 x9 x10 x11 M)) (hk : lq9 κ (0 + E171) (3050, 6 * 3050)) (x0 : Nat) (x1 : Int32) (x2 : Int32) (x3 : Int32) (x4 : Int32) (x6 : Int32) (x7 : Int32) (x10 : Int32) (x11 : Int32) (x12 : Int32) (x13 : Int32) (s0 : Int32) (M : Mem9) : J9 z N X out 15 315 [(0, .ref x0), (1, .int x1), (2, .int x2), (3, .int x3), (4, .int x4), (6, .int x6), (7, .int x7), (10, .int x10), (11, .int x11), (12, .int x12), (13, .int x13)] [.int s0] M κ (f_L_holds_b315 z r31 r171 x0 x1 x2 x3 x4 x6 x7 x10 x11 x12 x13 s0 M) := by
  refine j_ks0 ?_
  refine j_istore (pc := 315) C dL_holds_315 (Nat.le_of_ble_eq_true rfl) (ls' := [(5, .int s0), (0, .ref x0), (1, .int x1), (2, .int x2), (3, .int x3), (4, .int x4), (6, .int x6), (7, .int x7), (10, .int x10), (11, .int x11), (12, .int x12), (13, .int x13)]) rfl ?_
  refine j_iload (pc := 317) C dL_holds_317 rfl ?_
  refine j_iload (pc := 319) C dL_holds_319 rfl ?_
  refine j_isub (pc := 321) C dL_holds_321 ?_
  refine j_iconst (pc := 322) C dL_holds_322 (v := 1) rfl ?_
  refine j_iadd (pc := 323) C dL_holds_323 ?_
  refine j_nm (st' := fun x9 : Int32 => .int x9 :: []) rfl (fun y79 => ?_)
  refine j_istore (pc := 324) C dL_holds_324 (Nat.le_of_ble_eq_true rfl) (ls' := [(9, .int y79), (5, .int s0), (0, .ref x0), (1, .int x1), (2, .int x2), (3, .int x3), (4, .int x4), (6, .int x6), (7, .int x7), (10, .int x10), (11, .int x11), (12, .int x12), (13, .int x13)]) rfl ?_
  refine j_iinc (pc := 326) C dL_holds_326 rfl (v := (x11 + (1 : Int32))) rfl (Nat.le_of_ble_eq_true rfl) (ls' := [(11, .int (x11 + (1 : Int32))), (9, .int y79), (5, .int s0), (0, .ref x0), (1, .int x1), (2, .int x2), (3, .int x3), (4, .int x4), (6, .int x6), (7, .int x7), (10, .int x10), (12, .int x12), (13, .int x13)]) rfl ?_
  refine j_goto (pc := 329) C dL_holds_329 (tgt := 171) (by decide) ?_
  refine j_loc [3, 4, 5, 6, 7, 2, 8, 9, 1, 10, 0] rfl ?_
  exact h171 (ks9 κ 0) (lq_st hk (by omega)) x0 x1 x2 x3 x4 s0 x6 x7 y79 x10 (x11 + (1 : Int32)) M
def f_L_holds_b314 (z : Sh9) (r31 : Nat → Int32 → Int32 → Int32 → Int32 → Int32 → Int32 → Mem9 → Re9) (r171 : Nat → Int32 → Int32 → Int32 → Int32 → Int32 → Int32 → Int32 → Int32 → Int32 → Int32 → Mem9 → Re9) (x0 : Nat) (x1 : Int32) (x2 : Int32) (x3 : Int32) (x4 : Int32) (x6 : Int32) (x7 : Int32) (x10 : Int32) (x11 : Int32) (x12 : Int32) (x13 : Int32) (M : Mem9) : Re9 :=
  (f_L_holds_b315 z r31 r171 x0 x1 x2 x3 x4 x6 x7 x10 x11 x12 x13 (0 : Int32) M)
set_option maxRecDepth 20000 in
set_option maxHeartbeats 4000000 in
theorem t_L_holds_b314 {z : Sh9} {N : Nv9} {X : Cx9} {out : Out9 × Mem9} {κ : Ka9} (C : OK9 z N X out 15 (3050, 6 * 3050) cL_holds RL 11 2 []) {E31 : Nat} {r31 : Nat → Int32 → Int32 → Int32 → Int32 → Int32 → Int32 → Mem9 → Re9} (g31 : 7 ≤ E31) (h31 : ∀ κ2 : Ka9, lq9 κ2 E31 (3050, 6 * 3050) → ∀ (x0 : Nat) (x1 : Int32) (x2 : Int32) (x3 : Int32) (x4 : Int32) (x5 : Int32) (x6 : Int32) (M : Mem9), J9 z N X out 15 31 [(0, .ref x0), (1, .int x1), (2, .int x2), (3, .int x3), (4, .int x4), (5, .int x5), (6, .int x6)] [] M κ2 (r31 x0 x1 x2 x3 x4 x5 x6 M)) {E171 : Nat} {r171 : Nat → Int32 → Int32 → Int32 → Int32 → Int32 → Int32 → Int32 → Int32 → Int32 → Int32 → Mem9 → Re9} (g171 : 6 + E31 ≤ E171) (h171 : ∀ κ2 : Ka9, lq9 κ2 E171 (3050, 6 * 3050) → ∀ (x0 : Nat) (x1 : Int32) (x2 : Int32) (x3 : Int32) (x4 : Int32) (x5 : Int32) (x6 : Int32) (x7 : Int32) (x9 : Int32) (x10 : Int32) (x11 : Int32) (M : Mem9), J9 z N X out 15 171 [(0, .ref x0), (1, .int x1), (2, .int x2), (3, .int x3), (4, .int x4), (5, .int x5), (6, .int x6), (7, .int x7), (9, .int x9), (10, .int x10), (11, .int x11)] [] M κ2 (r171 x0 x1 x2 x3 x4 x5 x6 x7 x9 x10 x11 M)) (hk : lq9 κ (0 + E171) (3050, 6 * 3050)) (x0 : Nat) (x1 : Int32) (x2 : Int32) (x3 : Int32) (x4 : Int32) (x6 : Int32) (x7 : Int32) (x10 : Int32) (x11 : Int32) (x12 : Int32) (x13 : Int32) (M : Mem9) : J9 z N X out 15 314 [(0, .ref x0), (1, .int x1), (2, .int x2), (3, .int x3), (4, .int x4), (6, .int x6), (7, .int x7), (10, .int x10), (11, .int x11), (12, .int x12), (13, .int x13)] [] M κ (f_L_holds_b314 z r31 r171 x0 x1 x2 x3 x4 x6 x7 x10 x11 x12 x13 M) := by
  refine j_ks0 ?_
  refine j_iconst (pc := 314) C dL_holds_314 (v := 0) rfl ?_
  exact t_L_holds_b315 (κ := ks9 κ 0) C g31 h31 g171 h171 (lq_st hk (by omega)) x0 x1 x2 x3 x4 x6 x7 x10 x11 x12 x13 (0 : Int32) M
def f_L_holds_b310 (z : Sh9) (r31 : Nat → Int32 → Int32 → Int32 → Int32 → Int32 → Int32 → Mem9 → Re9) (r171 : Nat → Int32 → Int32 → Int32 → Int32 → Int32 → Int32 → Int32 → Int32 → Int32 → Int32 → Mem9 → Re9) (x0 : Nat) (x1 : Int32) (x2 : Int32) (x3 : Int32) (x4 : Int32) (x6 : Int32) (x7 : Int32) (x10 : Int32) (x11 : Int32) (x12 : Int32) (x13 : Int32) (M : Mem9) : Re9 :=
  (f_L_holds_b315 z r31 r171 x0 x1 x2 x3 x4 x6 x7 x10 x11 x12 x13 (1 : Int32) M)
set_option maxRecDepth 20000 in
set_option maxHeartbeats 4000000 in
theorem t_L_holds_b310 {z : Sh9} {N : Nv9} {X : Cx9} {out : Out9 × Mem9} {κ : Ka9} (C : OK9 z N X out 15 (3050, 6 * 3050) cL_holds RL 11 2 []) {E31 : Nat} {r31 : Nat → Int32 → Int32 → Int32 → Int32 → Int32 → Int32 → Mem9 → Re9} (g31 : 7 ≤ E31) (h31 : ∀ κ2 : Ka9, lq9 κ2 E31 (3050, 6 * 3050) → ∀ (x0 : Nat) (x1 : Int32) (x2 : Int32) (x3 : Int32) (x4 : Int32) (x5 : Int32) (x6 : Int32) (M : Mem9), J9 z N X out 15 31 [(0, .ref x0), (1, .int x1), (2, .int x2), (3, .int x3), (4, .int x4), (5, .int x5), (6, .int x6)] [] M κ2 (r31 x0 x1 x2 x3 x4 x5 x6 M)) {E171 : Nat} {r171 : Nat → Int32 → Int32 → Int32 → Int32 → Int32 → Int32 → Int32 → Int32 → Int32 → Int32 → Mem9 → Re9} (g171 : 6 + E31 ≤ E171) (h171 : ∀ κ2 : Ka9, lq9 κ2 E171 (3050, 6 * 3050) → ∀ (x0 : Nat) (x1 : Int32) (x2 : Int32) (x3 : Int32) (x4 : Int32) (x5 : Int32) (x6 : Int32) (x7 : Int32) (x9 : Int32) (x10 : Int32) (x11 : Int32) (M : Mem9), J9 z N X out 15 171 [(0, .ref x0), (1, .int x1), (2, .int x2), (3, .int x3), (4, .int x4), (5, .int x5), (6, .int x6), (7, .int x7), (9, .int x9), (10, .int x10), (11, .int x11)] [] M κ2 (r171 x0 x1 x2 x3 x4 x5 x6 x7 x9 x10 x11 M)) (hk : lq9 κ (0 + E171) (3050, 6 * 3050)) (x0 : Nat) (x1 : Int32) (x2 : Int32) (x3 : Int32) (x4 : Int32) (x6 : Int32) (x7 : Int32) (x10 : Int32) (x11 : Int32) (x12 : Int32) (x13 : Int32) (M : Mem9) : J9 z N X out 15 310 [(0, .ref x0), (1, .int x1), (2, .int x2), (3, .int x3), (4, .int x4), (6, .int x6), (7, .int x7), (10, .int x10), (11, .int x11), (12, .int x12), (13, .int x13)] [] M κ (f_L_holds_b310 z r31 r171 x0 x1 x2 x3 x4 x6 x7 x10 x11 x12 x13 M) := by
  refine j_ks0 ?_
  refine j_iconst (pc := 310) C dL_holds_310 (v := 1) rfl ?_
  refine j_goto (pc := 311) C dL_holds_311 (tgt := 315) (by decide) ?_
  exact t_L_holds_b315 (κ := ks9 κ 0) C g31 h31 g171 h171 (lq_st hk (by omega)) x0 x1 x2 x3 x4 x6 x7 x10 x11 x12 x13 (1 : Int32) M
def f_L_holds_b283 (z : Sh9) (r31 : Nat → Int32 → Int32 → Int32 → Int32 → Int32 → Int32 → Mem9 → Re9) (r171 : Nat → Int32 → Int32 → Int32 → Int32 → Int32 → Int32 → Int32 → Int32 → Int32 → Int32 → Mem9 → Re9) (x0 : Nat) (x1 : Int32) (x2 : Int32) (x3 : Int32) (x4 : Int32) (x6 : Int32) (x7 : Int32) (x10 : Int32) (x11 : Int32) (x12 : Int32) (x13 : Int32) (x14 : Int32) (M : Mem9) : Re9 :=
  (if x13 < (20 : Int32) then (f_L_holds_b310 z r31 r171 x0 x1 x2 x3 x4 x6 x7 x10 x11 x12 x13 M) else (if x14 = (1 : Int32) then (f_L_holds_b310 z r31 r171 x0 x1 x2 x3 x4 x6 x7 x10 x11 x12 x13 M) else (bi9 (f_L_call z x0 (4 : Int32) x6 x11 (3 : Int32) M) fun v73 M72 => (if v73 = (1 : Int32) then (f_L_holds_b310 z r31 r171 x0 x1 x2 x3 x4 x6 x7 x10 x11 x12 x13 M72) else (f_L_holds_b314 z r31 r171 x0 x1 x2 x3 x4 x6 x7 x10 x11 x12 x13 M72)))))
set_option maxRecDepth 20000 in
set_option maxHeartbeats 4000000 in
theorem t_L_holds_b283 {z : Sh9} {N : Nv9} {X : Cx9} {out : Out9 × Mem9} {κ : Ka9} (C : OK9 z N X out 15 (3050, 6 * 3050) cL_holds RL 11 2 []) {E31 : Nat} {r31 : Nat → Int32 → Int32 → Int32 → Int32 → Int32 → Int32 → Mem9 → Re9} (g31 : 7 ≤ E31) (h31 : ∀ κ2 : Ka9, lq9 κ2 E31 (3050, 6 * 3050) → ∀ (x0 : Nat) (x1 : Int32) (x2 : Int32) (x3 : Int32) (x4 : Int32) (x5 : Int32) (x6 : Int32) (M : Mem9), J9 z N X out 15 31 [(0, .ref x0), (1, .int x1), (2, .int x2), (3, .int x3), (4, .int x4), (5, .int x5), (6, .int x6)] [] M κ2 (r31 x0 x1 x2 x3 x4 x5 x6 M)) {E171 : Nat} {r171 : Nat → Int32 → Int32 → Int32 → Int32 → Int32 → Int32 → Int32 → Int32 → Int32 → Int32 → Mem9 → Re9} (g171 : 6 + E31 ≤ E171) (h171 : ∀ κ2 : Ka9, lq9 κ2 E171 (3050, 6 * 3050) → ∀ (x0 : Nat) (x1 : Int32) (x2 : Int32) (x3 : Int32) (x4 : Int32) (x5 : Int32) (x6 : Int32) (x7 : Int32) (x9 : Int32) (x10 : Int32) (x11 : Int32) (M : Mem9), J9 z N X out 15 171 [(0, .ref x0), (1, .int x1), (2, .int x2), (3, .int x3), (4, .int x4), (5, .int x5), (6, .int x6), (7, .int x7), (9, .int x9), (10, .int x10), (11, .int x11)] [] M κ2 (r171 x0 x1 x2 x3 x4 x5 x6 x7 x9 x10 x11 M)) (hk : lq9 κ (1 + E171) (3050, 6 * 3050)) (x0 : Nat) (x1 : Int32) (x2 : Int32) (x3 : Int32) (x4 : Int32) (x6 : Int32) (x7 : Int32) (x10 : Int32) (x11 : Int32) (x12 : Int32) (x13 : Int32) (x14 : Int32) (M : Mem9) : J9 z N X out 15 283 [(0, .ref x0), (1, .int x1), (2, .int x2), (3, .int x3), (4, .int x4), (6, .int x6), (7, .int x7), (10, .int x10), (11, .int x11), (12, .int x12), (13, .int x13), (14, .int x14)] [] M κ (f_L_holds_b283 z r31 r171 x0 x1 x2 x3 x4 x6 x7 x10 x11 x12 x13 x14 M) := by
  refine j_ks0 ?_
  refine j_iload (pc := 283) C dL_holds_283 rfl ?_
  refine j_bipush (pc := 285) C dL_holds_285 (v := 20) rfl ?_
  refine j_icmp_lt (pc := 287) C dL_holds_287 (tgt := 310) (by decide) (fun hc76 => ?_) (fun hc76 => ?_)
  · refine j_loc [0, 1, 2, 3, 4, 5, 6, 7, 8, 9, 10] rfl ?_
    exact t_L_holds_b310 (κ := ks9 κ 0) C g31 h31 g171 h171 (lq_st hk (by omega)) x0 x1 x2 x3 x4 x6 x7 x10 x11 x12 x13 M
  · refine j_iload (pc := 290) C dL_holds_290 rfl ?_
    refine j_iconst (pc := 292) C dL_holds_292 (v := 1) rfl ?_
    refine j_icmp_eq (pc := 293) C dL_holds_293 (tgt := 310) (by decide) (fun hc75 => ?_) (fun hc75 => ?_)
    · refine j_loc [0, 1, 2, 3, 4, 5, 6, 7, 8, 9, 10] rfl ?_
      exact t_L_holds_b310 (κ := ks9 κ 0) C g31 h31 g171 h171 (lq_st hk (by omega)) x0 x1 x2 x3 x4 x6 x7 x10 x11 x12 x13 M
    · refine j_aload_n (pc := 296) C dL_holds_296 rfl ?_
      refine j_iconst (pc := 297) C dL_holds_297 (v := 4) rfl ?_
      refine j_iload (pc := 298) C dL_holds_298 rfl ?_
      refine j_iload (pc := 300) C dL_holds_300 rfl ?_
      refine j_iconst (pc := 302) C dL_holds_302 (v := 3) rfl ?_
      refine j_callQS (pc := 303) (κ := ks9 κ 0) (κ1 := ks9 κ 1) (c := 1) C rfl dL_holds_303 ls_L_160 rfl (Nat.le_of_ble_eq_true rfl) (Nat.le_of_ble_eq_true rfl) (by decide) (ks_add rfl) (lq_le hk (by omega)) (fun l hl o ho => sp_L_call hl ho) (fun v73 M72 => ?_)
      refine j_iconst (pc := 306) C dL_holds_306 (v := 1) rfl ?_
      refine j_icmp_ne (pc := 307) C dL_holds_307 (tgt := 314) (by decide) (fun hc74 => ?_) (fun hc74 => ?_)
      · refine j_loc [0, 1, 2, 3, 4, 5, 6, 7, 8, 9, 10] rfl ?_
        exact t_L_holds_b314 (κ := ks9 κ 1) C g31 h31 g171 h171 (lq_st hk (by omega)) x0 x1 x2 x3 x4 x6 x7 x10 x11 x12 x13 M72
      · refine j_loc [0, 1, 2, 3, 4, 5, 6, 7, 8, 9, 10] rfl ?_
        exact t_L_holds_b310 (κ := ks9 κ 1) C g31 h31 g171 h171 (lq_st hk (by omega)) x0 x1 x2 x3 x4 x6 x7 x10 x11 x12 x13 M72
def f_L_holds_b237 (z : Sh9) (r31 : Nat → Int32 → Int32 → Int32 → Int32 → Int32 → Int32 → Mem9 → Re9) (r171 : Nat → Int32 → Int32 → Int32 → Int32 → Int32 → Int32 → Int32 → Int32 → Int32 → Int32 → Mem9 → Re9) (x0 : Nat) (x1 : Int32) (x2 : Int32) (x3 : Int32) (x4 : Int32) (x6 : Int32) (x7 : Int32) (x9 : Int32) (x11 : Int32) (x12 : Int32) (x13 : Int32) (x14 : Int32) (s0 : Int32) (M : Mem9) : Re9 :=
  (if x9 ≤ x13 then (f_L_holds_b314 z r31 r171 x0 x1 x2 x3 x4 x6 x7 s0 x11 x12 x13 M) else (if (39 : Int32) < ((x13 - x12) + (1 : Int32)) then (f_L_holds_b314 z r31 r171 x0 x1 x2 x3 x4 x6 x7 s0 x11 x12 x13 M) else (if x12 < (2 : Int32) then (f_L_holds_b314 z r31 r171 x0 x1 x2 x3 x4 x6 x7 s0 x11 x12 x13 M) else (if (12 : Int32) < x12 then (f_L_holds_b314 z r31 r171 x0 x1 x2 x3 x4 x6 x7 s0 x11 x12 x13 M) else (if x14 = 0 then (f_L_holds_b283 z r31 r171 x0 x1 x2 x3 x4 x6 x7 s0 x11 x12 x13 x14 M) else (if x13 < (19 : Int32) then (f_L_holds_b314 z r31 r171 x0 x1 x2 x3 x4 x6 x7 s0 x11 x12 x13 M) else (f_L_holds_b283 z r31 r171 x0 x1 x2 x3 x4 x6 x7 s0 x11 x12 x13 x14 M)))))))
set_option maxRecDepth 20000 in
set_option maxHeartbeats 4000000 in
theorem t_L_holds_b237 {z : Sh9} {N : Nv9} {X : Cx9} {out : Out9 × Mem9} {κ : Ka9} (C : OK9 z N X out 15 (3050, 6 * 3050) cL_holds RL 11 2 []) {E31 : Nat} {r31 : Nat → Int32 → Int32 → Int32 → Int32 → Int32 → Int32 → Mem9 → Re9} (g31 : 7 ≤ E31) (h31 : ∀ κ2 : Ka9, lq9 κ2 E31 (3050, 6 * 3050) → ∀ (x0 : Nat) (x1 : Int32) (x2 : Int32) (x3 : Int32) (x4 : Int32) (x5 : Int32) (x6 : Int32) (M : Mem9), J9 z N X out 15 31 [(0, .ref x0), (1, .int x1), (2, .int x2), (3, .int x3), (4, .int x4), (5, .int x5), (6, .int x6)] [] M κ2 (r31 x0 x1 x2 x3 x4 x5 x6 M)) {E171 : Nat} {r171 : Nat → Int32 → Int32 → Int32 → Int32 → Int32 → Int32 → Int32 → Int32 → Int32 → Int32 → Mem9 → Re9} (g171 : 6 + E31 ≤ E171) (h171 : ∀ κ2 : Ka9, lq9 κ2 E171 (3050, 6 * 3050) → ∀ (x0 : Nat) (x1 : Int32) (x2 : Int32) (x3 : Int32) (x4 : Int32) (x5 : Int32) (x6 : Int32) (x7 : Int32) (x9 : Int32) (x10 : Int32) (x11 : Int32) (M : Mem9), J9 z N X out 15 171 [(0, .ref x0), (1, .int x1), (2, .int x2), (3, .int x3), (4, .int x4), (5, .int x5), (6, .int x6), (7, .int x7), (9, .int x9), (10, .int x10), (11, .int x11)] [] M κ2 (r171 x0 x1 x2 x3 x4 x5 x6 x7 x9 x10 x11 M)) (hk : lq9 κ (1 + E171) (3050, 6 * 3050)) (x0 : Nat) (x1 : Int32) (x2 : Int32) (x3 : Int32) (x4 : Int32) (x6 : Int32) (x7 : Int32) (x9 : Int32) (x11 : Int32) (x12 : Int32) (x13 : Int32) (x14 : Int32) (s0 : Int32) (M : Mem9) : J9 z N X out 15 237 [(0, .ref x0), (1, .int x1), (2, .int x2), (3, .int x3), (4, .int x4), (6, .int x6), (7, .int x7), (9, .int x9), (11, .int x11), (12, .int x12), (13, .int x13), (14, .int x14)] [.int s0] M κ (f_L_holds_b237 z r31 r171 x0 x1 x2 x3 x4 x6 x7 x9 x11 x12 x13 x14 s0 M) := by
  refine j_ks0 ?_
  refine j_istore (pc := 237) C dL_holds_237 (Nat.le_of_ble_eq_true rfl) (ls' := [(10, .int s0), (0, .ref x0), (1, .int x1), (2, .int x2), (3, .int x3), (4, .int x4), (6, .int x6), (7, .int x7), (9, .int x9), (11, .int x11), (12, .int x12), (13, .int x13), (14, .int x14)]) rfl ?_
  refine j_iload (pc := 239) C dL_holds_239 rfl ?_
  refine j_iload (pc := 241) C dL_holds_241 rfl ?_
  refine j_icmp_ge (pc := 243) C dL_holds_243 (tgt := 314) (by decide) (fun hc70 => ?_) (fun hc70 => ?_)
  · refine j_loc [1, 2, 3, 4, 5, 6, 7, 0, 9, 10, 11] rfl ?_
    exact t_L_holds_b314 (κ := ks9 κ 0) C g31 h31 g171 h171 (lq_st hk (by omega)) x0 x1 x2 x3 x4 x6 x7 s0 x11 x12 x13 M
  · refine j_iload (pc := 246) C dL_holds_246 rfl ?_
    refine j_iload (pc := 248) C dL_holds_248 rfl ?_
    refine j_isub (pc := 250) C dL_holds_250 ?_
    refine j_iconst (pc := 251) C dL_holds_251 (v := 1) rfl ?_
    refine j_iadd (pc := 252) C dL_holds_252 ?_
    refine j_bipush (pc := 253) C dL_holds_253 (v := 39) rfl ?_
    refine j_icmp_gt (pc := 255) C dL_holds_255 (tgt := 314) (by decide) (fun hc69 => ?_) (fun hc69 => ?_)
    · refine j_loc [1, 2, 3, 4, 5, 6, 7, 0, 9, 10, 11] rfl ?_
      exact t_L_holds_b314 (κ := ks9 κ 0) C g31 h31 g171 h171 (lq_st hk (by omega)) x0 x1 x2 x3 x4 x6 x7 s0 x11 x12 x13 M
    · refine j_iload (pc := 258) C dL_holds_258 rfl ?_
      refine j_iconst (pc := 260) C dL_holds_260 (v := 2) rfl ?_
      refine j_icmp_lt (pc := 261) C dL_holds_261 (tgt := 314) (by decide) (fun hc68 => ?_) (fun hc68 => ?_)
      · refine j_loc [1, 2, 3, 4, 5, 6, 7, 0, 9, 10, 11] rfl ?_
        exact t_L_holds_b314 (κ := ks9 κ 0) C g31 h31 g171 h171 (lq_st hk (by omega)) x0 x1 x2 x3 x4 x6 x7 s0 x11 x12 x13 M
      · refine j_iload (pc := 264) C dL_holds_264 rfl ?_
        refine j_bipush (pc := 266) C dL_holds_266 (v := 12) rfl ?_
        refine j_icmp_gt (pc := 268) C dL_holds_268 (tgt := 314) (by decide) (fun hc67 => ?_) (fun hc67 => ?_)
        · refine j_loc [1, 2, 3, 4, 5, 6, 7, 0, 9, 10, 11] rfl ?_
          exact t_L_holds_b314 (κ := ks9 κ 0) C g31 h31 g171 h171 (lq_st hk (by omega)) x0 x1 x2 x3 x4 x6 x7 s0 x11 x12 x13 M
        · refine j_iload (pc := 271) C dL_holds_271 rfl ?_
          refine j_if_eq (pc := 273) C dL_holds_273 (tgt := 283) (by decide) (fun hc66 => ?_) (fun hc66 => ?_)
          · refine j_loc [1, 2, 3, 4, 5, 6, 7, 0, 9, 10, 11, 12] rfl ?_
            exact t_L_holds_b283 (κ := ks9 κ 0) C g31 h31 g171 h171 (lq_st hk (by omega)) x0 x1 x2 x3 x4 x6 x7 s0 x11 x12 x13 x14 M
          · refine j_iload (pc := 276) C dL_holds_276 rfl ?_
            refine j_bipush (pc := 278) C dL_holds_278 (v := 19) rfl ?_
            refine j_icmp_lt (pc := 280) C dL_holds_280 (tgt := 314) (by decide) (fun hc65 => ?_) (fun hc65 => ?_)
            · refine j_loc [1, 2, 3, 4, 5, 6, 7, 0, 9, 10, 11] rfl ?_
              exact t_L_holds_b314 (κ := ks9 κ 0) C g31 h31 g171 h171 (lq_st hk (by omega)) x0 x1 x2 x3 x4 x6 x7 s0 x11 x12 x13 M
            · refine j_loc [1, 2, 3, 4, 5, 6, 7, 0, 9, 10, 11, 12] rfl ?_
              exact t_L_holds_b283 (κ := ks9 κ 0) C g31 h31 g171 h171 (lq_st hk (by omega)) x0 x1 x2 x3 x4 x6 x7 s0 x11 x12 x13 x14 M
def f_L_holds_b235 (z : Sh9) (r31 : Nat → Int32 → Int32 → Int32 → Int32 → Int32 → Int32 → Mem9 → Re9) (r171 : Nat → Int32 → Int32 → Int32 → Int32 → Int32 → Int32 → Int32 → Int32 → Int32 → Int32 → Mem9 → Re9) (x0 : Nat) (x1 : Int32) (x2 : Int32) (x3 : Int32) (x4 : Int32) (x6 : Int32) (x7 : Int32) (x9 : Int32) (x10 : Int32) (x11 : Int32) (x12 : Int32) (x13 : Int32) (x14 : Int32) (M : Mem9) : Re9 :=
  (f_L_holds_b237 z r31 r171 x0 x1 x2 x3 x4 x6 x7 x9 x11 x12 x13 x14 x10 M)
set_option maxRecDepth 20000 in
set_option maxHeartbeats 4000000 in
theorem t_L_holds_b235 {z : Sh9} {N : Nv9} {X : Cx9} {out : Out9 × Mem9} {κ : Ka9} (C : OK9 z N X out 15 (3050, 6 * 3050) cL_holds RL 11 2 []) {E31 : Nat} {r31 : Nat → Int32 → Int32 → Int32 → Int32 → Int32 → Int32 → Mem9 → Re9} (g31 : 7 ≤ E31) (h31 : ∀ κ2 : Ka9, lq9 κ2 E31 (3050, 6 * 3050) → ∀ (x0 : Nat) (x1 : Int32) (x2 : Int32) (x3 : Int32) (x4 : Int32) (x5 : Int32) (x6 : Int32) (M : Mem9), J9 z N X out 15 31 [(0, .ref x0), (1, .int x1), (2, .int x2), (3, .int x3), (4, .int x4), (5, .int x5), (6, .int x6)] [] M κ2 (r31 x0 x1 x2 x3 x4 x5 x6 M)) {E171 : Nat} {r171 : Nat → Int32 → Int32 → Int32 → Int32 → Int32 → Int32 → Int32 → Int32 → Int32 → Int32 → Mem9 → Re9} (g171 : 6 + E31 ≤ E171) (h171 : ∀ κ2 : Ka9, lq9 κ2 E171 (3050, 6 * 3050) → ∀ (x0 : Nat) (x1 : Int32) (x2 : Int32) (x3 : Int32) (x4 : Int32) (x5 : Int32) (x6 : Int32) (x7 : Int32) (x9 : Int32) (x10 : Int32) (x11 : Int32) (M : Mem9), J9 z N X out 15 171 [(0, .ref x0), (1, .int x1), (2, .int x2), (3, .int x3), (4, .int x4), (5, .int x5), (6, .int x6), (7, .int x7), (9, .int x9), (10, .int x10), (11, .int x11)] [] M κ2 (r171 x0 x1 x2 x3 x4 x5 x6 x7 x9 x10 x11 M)) (hk : lq9 κ (1 + E171) (3050, 6 * 3050)) (x0 : Nat) (x1 : Int32) (x2 : Int32) (x3 : Int32) (x4 : Int32) (x6 : Int32) (x7 : Int32) (x9 : Int32) (x10 : Int32) (x11 : Int32) (x12 : Int32) (x13 : Int32) (x14 : Int32) (M : Mem9) : J9 z N X out 15 235 [(0, .ref x0), (1, .int x1), (2, .int x2), (3, .int x3), (4, .int x4), (6, .int x6), (7, .int x7), (9, .int x9), (10, .int x10), (11, .int x11), (12, .int x12), (13, .int x13), (14, .int x14)] [] M κ (f_L_holds_b235 z r31 r171 x0 x1 x2 x3 x4 x6 x7 x9 x10 x11 x12 x13 x14 M) := by
  refine j_ks0 ?_
  refine j_iload (pc := 235) C dL_holds_235 rfl ?_
  refine j_loc [0, 1, 2, 3, 4, 5, 6, 7, 9, 10, 11, 12] rfl ?_
  exact t_L_holds_b237 (κ := ks9 κ 0) C g31 h31 g171 h171 (lq_st hk (by omega)) x0 x1 x2 x3 x4 x6 x7 x9 x11 x12 x13 x14 x10 M
def f_L_holds_b171 (z : Sh9) (r31 : Nat → Int32 → Int32 → Int32 → Int32 → Int32 → Int32 → Mem9 → Re9) (r171 : Nat → Int32 → Int32 → Int32 → Int32 → Int32 → Int32 → Int32 → Int32 → Int32 → Int32 → Mem9 → Re9) (x0 : Nat) (x1 : Int32) (x2 : Int32) (x3 : Int32) (x4 : Int32) (x5 : Int32) (x6 : Int32) (x7 : Int32) (x9 : Int32) (x10 : Int32) (x11 : Int32) (M : Mem9) : Re9 :=
  (if x7 ≤ x11 then (f_L_holds_b332 z r31 x0 x1 x2 x3 x4 x5 x6 x7 x10 M) else (if x5 = 0 then (f_L_holds_b332 z r31 x0 x1 x2 x3 x4 x5 x6 x7 x10 M) else (bi9 (f_L_call z x0 (4 : Int32) x6 x11 (0 : Int32) M) fun v50 M49 => (bi9 (f_L_call z x0 (4 : Int32) x6 x11 (1 : Int32) M49) fun v52 M51 => (bi9 (f_L_call z x0 (4 : Int32) x6 x11 (4 : Int32) M51) fun v54 M53 => (if v52 = (19 : Int32) then (if v54 = 0 then (f_L_holds_b237 z r31 r171 x0 x1 x2 x3 x4 x6 x7 x9 x11 v50 v52 v54 (1 : Int32) M53) else (f_L_holds_b235 z r31 r171 x0 x1 x2 x3 x4 x6 x7 x9 x10 x11 v50 v52 v54 M53)) else (f_L_holds_b235 z r31 r171 x0 x1 x2 x3 x4 x6 x7 x9 x10 x11 v50 v52 v54 M53)))))))
set_option maxRecDepth 20000 in
set_option maxHeartbeats 4000000 in
theorem t_L_holds_b171 {z : Sh9} {N : Nv9} {X : Cx9} {out : Out9 × Mem9} {κ : Ka9} (C : OK9 z N X out 15 (3050, 6 * 3050) cL_holds RL 11 2 []) {E31 : Nat} {r31 : Nat → Int32 → Int32 → Int32 → Int32 → Int32 → Int32 → Mem9 → Re9} (g31 : 7 ≤ E31) (h31 : ∀ κ2 : Ka9, lq9 κ2 E31 (3050, 6 * 3050) → ∀ (x0 : Nat) (x1 : Int32) (x2 : Int32) (x3 : Int32) (x4 : Int32) (x5 : Int32) (x6 : Int32) (M : Mem9), J9 z N X out 15 31 [(0, .ref x0), (1, .int x1), (2, .int x2), (3, .int x3), (4, .int x4), (5, .int x5), (6, .int x6)] [] M κ2 (r31 x0 x1 x2 x3 x4 x5 x6 M)) {E171 : Nat} {r171 : Nat → Int32 → Int32 → Int32 → Int32 → Int32 → Int32 → Int32 → Int32 → Int32 → Int32 → Mem9 → Re9} (g171 : 6 + E31 ≤ E171) (h171 : ∀ κ2 : Ka9, lq9 κ2 E171 (3050, 6 * 3050) → ∀ (x0 : Nat) (x1 : Int32) (x2 : Int32) (x3 : Int32) (x4 : Int32) (x5 : Int32) (x6 : Int32) (x7 : Int32) (x9 : Int32) (x10 : Int32) (x11 : Int32) (M : Mem9), J9 z N X out 15 171 [(0, .ref x0), (1, .int x1), (2, .int x2), (3, .int x3), (4, .int x4), (5, .int x5), (6, .int x6), (7, .int x7), (9, .int x9), (10, .int x10), (11, .int x11)] [] M κ2 (r171 x0 x1 x2 x3 x4 x5 x6 x7 x9 x10 x11 M)) (hk : lq9 κ (4 + E171) (3050, 6 * 3050)) (x0 : Nat) (x1 : Int32) (x2 : Int32) (x3 : Int32) (x4 : Int32) (x5 : Int32) (x6 : Int32) (x7 : Int32) (x9 : Int32) (x10 : Int32) (x11 : Int32) (M : Mem9) : J9 z N X out 15 171 [(0, .ref x0), (1, .int x1), (2, .int x2), (3, .int x3), (4, .int x4), (5, .int x5), (6, .int x6), (7, .int x7), (9, .int x9), (10, .int x10), (11, .int x11)] [] M κ (f_L_holds_b171 z r31 r171 x0 x1 x2 x3 x4 x5 x6 x7 x9 x10 x11 M) := by
  refine j_ks0 ?_
  refine j_iload (pc := 171) C dL_holds_171 rfl ?_
  refine j_iload (pc := 173) C dL_holds_173 rfl ?_
  refine j_icmp_ge (pc := 175) C dL_holds_175 (tgt := 332) (by decide) (fun hc58 => ?_) (fun hc58 => ?_)
  · refine j_loc [0, 1, 2, 3, 4, 5, 6, 7, 9] rfl ?_
    exact t_L_holds_b332 (κ := ks9 κ 0) C g31 h31 (lq_st hk (by omega)) x0 x1 x2 x3 x4 x5 x6 x7 x10 M
  · refine j_iload (pc := 178) C dL_holds_178 rfl ?_
    refine j_if_eq (pc := 180) C dL_holds_180 (tgt := 332) (by decide) (fun hc57 => ?_) (fun hc57 => ?_)
    · refine j_loc [0, 1, 2, 3, 4, 5, 6, 7, 9] rfl ?_
      exact t_L_holds_b332 (κ := ks9 κ 0) C g31 h31 (lq_st hk (by omega)) x0 x1 x2 x3 x4 x5 x6 x7 x10 M
    · refine j_aload_n (pc := 183) C dL_holds_183 rfl ?_
      refine j_iconst (pc := 184) C dL_holds_184 (v := 4) rfl ?_
      refine j_iload (pc := 185) C dL_holds_185 rfl ?_
      refine j_iload (pc := 187) C dL_holds_187 rfl ?_
      refine j_iconst (pc := 189) C dL_holds_189 (v := 0) rfl ?_
      refine j_callQS (pc := 190) (κ := ks9 κ 0) (κ1 := ks9 κ 1) (c := 1) C rfl dL_holds_190 ls_L_160 rfl (Nat.le_of_ble_eq_true rfl) (Nat.le_of_ble_eq_true rfl) (by decide) (ks_add rfl) (lq_le hk (by omega)) (fun l hl o ho => sp_L_call hl ho) (fun v50 M49 => ?_)
      refine j_istore (pc := 193) C dL_holds_193 (Nat.le_of_ble_eq_true rfl) (ls' := [(12, .int v50), (0, .ref x0), (1, .int x1), (2, .int x2), (3, .int x3), (4, .int x4), (5, .int x5), (6, .int x6), (7, .int x7), (9, .int x9), (10, .int x10), (11, .int x11)]) rfl ?_
      refine j_aload_n (pc := 195) C dL_holds_195 rfl ?_
      refine j_iconst (pc := 196) C dL_holds_196 (v := 4) rfl ?_
      refine j_iload (pc := 197) C dL_holds_197 rfl ?_
      refine j_iload (pc := 199) C dL_holds_199 rfl ?_
      refine j_iconst (pc := 201) C dL_holds_201 (v := 1) rfl ?_
      refine j_callQS (pc := 202) (κ := ks9 κ 1) (κ1 := ks9 κ 2) (c := 1) C rfl dL_holds_202 ls_L_160 rfl (Nat.le_of_ble_eq_true rfl) (Nat.le_of_ble_eq_true rfl) (by decide) (ks_add rfl) (lq_le hk (by omega)) (fun l hl o ho => sp_L_call hl ho) (fun v52 M51 => ?_)
      refine j_istore (pc := 205) C dL_holds_205 (Nat.le_of_ble_eq_true rfl) (ls' := [(13, .int v52), (12, .int v50), (0, .ref x0), (1, .int x1), (2, .int x2), (3, .int x3), (4, .int x4), (5, .int x5), (6, .int x6), (7, .int x7), (9, .int x9), (10, .int x10), (11, .int x11)]) rfl ?_
      refine j_aload_n (pc := 207) C dL_holds_207 rfl ?_
      refine j_iconst (pc := 208) C dL_holds_208 (v := 4) rfl ?_
      refine j_iload (pc := 209) C dL_holds_209 rfl ?_
      refine j_iload (pc := 211) C dL_holds_211 rfl ?_
      refine j_iconst (pc := 213) C dL_holds_213 (v := 4) rfl ?_
      refine j_callQS (pc := 214) (κ := ks9 κ 2) (κ1 := ks9 κ 3) (c := 1) C rfl dL_holds_214 ls_L_160 rfl (Nat.le_of_ble_eq_true rfl) (Nat.le_of_ble_eq_true rfl) (by decide) (ks_add rfl) (lq_le hk (by omega)) (fun l hl o ho => sp_L_call hl ho) (fun v54 M53 => ?_)
      refine j_istore (pc := 217) C dL_holds_217 (Nat.le_of_ble_eq_true rfl) (ls' := [(14, .int v54), (13, .int v52), (12, .int v50), (0, .ref x0), (1, .int x1), (2, .int x2), (3, .int x3), (4, .int x4), (5, .int x5), (6, .int x6), (7, .int x7), (9, .int x9), (10, .int x10), (11, .int x11)]) rfl ?_
      refine j_iload (pc := 219) C dL_holds_219 rfl ?_
      refine j_bipush (pc := 221) C dL_holds_221 (v := 19) rfl ?_
      refine j_icmp_ne (pc := 223) C dL_holds_223 (tgt := 235) (by decide) (fun hc56 => ?_) (fun hc56 => ?_)
      · refine j_loc [3, 4, 5, 6, 7, 9, 10, 11, 12, 13, 2, 1, 0] rfl ?_
        exact t_L_holds_b235 (κ := ks9 κ 3) C g31 h31 g171 h171 (lq_st hk (by omega)) x0 x1 x2 x3 x4 x6 x7 x9 x10 x11 v50 v52 v54 M53
      · refine j_iload (pc := 226) C dL_holds_226 rfl ?_
        refine j_if_ne (pc := 228) C dL_holds_228 (tgt := 235) (by decide) (fun hc55 => ?_) (fun hc55 => ?_)
        · refine j_loc [3, 4, 5, 6, 7, 9, 10, 11, 12, 13, 2, 1, 0] rfl ?_
          exact t_L_holds_b235 (κ := ks9 κ 3) C g31 h31 g171 h171 (lq_st hk (by omega)) x0 x1 x2 x3 x4 x6 x7 x9 x10 x11 v50 v52 v54 M53
        · refine j_iconst (pc := 231) C dL_holds_231 (v := 1) rfl ?_
          refine j_goto (pc := 232) C dL_holds_232 (tgt := 237) (by decide) ?_
          refine j_loc [3, 4, 5, 6, 7, 9, 10, 11, 13, 2, 1, 0] rfl ?_
          exact t_L_holds_b237 (κ := ks9 κ 3) C g31 h31 g171 h171 (lq_st hk (by omega)) x0 x1 x2 x3 x4 x6 x7 x9 x11 v50 v52 v54 (1 : Int32) M53
theorem t_L_holds_l171 {z : Sh9} {N : Nv9} {X : Cx9} {out : Out9 × Mem9} (C : OK9 z N X out 15 (3050, 6 * 3050) cL_holds RL 11 2 []) {E31 : Nat} {r31 : Nat → Int32 → Int32 → Int32 → Int32 → Int32 → Int32 → Mem9 → Re9} (g31 : 7 ≤ E31) (h31 : ∀ κ2 : Ka9, lq9 κ2 E31 (3050, 6 * 3050) → ∀ (x0 : Nat) (x1 : Int32) (x2 : Int32) (x3 : Int32) (x4 : Int32) (x5 : Int32) (x6 : Int32) (M : Mem9), J9 z N X out 15 31 [(0, .ref x0), (1, .int x1), (2, .int x2), (3, .int x3), (4, .int x4), (5, .int x5), (6, .int x6)] [] M κ2 (r31 x0 x1 x2 x3 x4 x5 x6 M)) : ∀ (n : Nat) (κ : Ka9), lq9 κ (n * 4 + (6 + E31)) (3050, 6 * 3050) → ∀ (x0 : Nat) (x1 : Int32) (x2 : Int32) (x3 : Int32) (x4 : Int32) (x5 : Int32) (x6 : Int32) (x7 : Int32) (x9 : Int32) (x10 : Int32) (x11 : Int32) (M : Mem9), J9 z N X out 15 171 [(0, .ref x0), (1, .int x1), (2, .int x2), (3, .int x3), (4, .int x4), (5, .int x5), (6, .int x6), (7, .int x7), (9, .int x9), (10, .int x10), (11, .int x11)] [] M κ (fx9 (fun _ _ _ _ _ _ _ _ _ _ _ _ => none) (f_L_holds_b171 z r31) n x0 x1 x2 x3 x4 x5 x6 x7 x9 x10 x11 M) := by
  intro n
  induction n with
  | zero => intro κ hk x0 x1 x2 x3 x4 x5 x6 x7 x9 x10 x11 M; exact j_none
  | succ n ih =>
    intro κ hk x0 x1 x2 x3 x4 x5 x6 x7 x9 x10 x11 M
    exact t_L_holds_b171 (κ := κ) C g31 h31 (E171 := n * 4 + (6 + E31)) (by omega) ih (lq_mo hk (by omega)) x0 x1 x2 x3 x4 x5 x6 x7 x9 x10 x11 M
def f_L_holds_b166 (z : Sh9) (r31 : Nat → Int32 → Int32 → Int32 → Int32 → Int32 → Int32 → Mem9 → Re9) (x0 : Nat) (x1 : Int32) (x2 : Int32) (x3 : Int32) (x4 : Int32) (x6 : Int32) (x7 : Int32) (x9 : Int32) (x10 : Int32) (s0 : Int32) (M : Mem9) : Re9 :=
  (fx9 (fun _ _ _ _ _ _ _ _ _ _ _ _ => none) (f_L_holds_b171 z r31) 26 x0 x1 x2 x3 x4 s0 x6 x7 x9 x10 (0 : Int32) M)
set_option maxRecDepth 20000 in
set_option maxHeartbeats 4000000 in
theorem t_L_holds_b166 {z : Sh9} {N : Nv9} {X : Cx9} {out : Out9 × Mem9} {κ : Ka9} (C : OK9 z N X out 15 (3050, 6 * 3050) cL_holds RL 11 2 []) {E31 : Nat} {r31 : Nat → Int32 → Int32 → Int32 → Int32 → Int32 → Int32 → Mem9 → Re9} (g31 : 7 ≤ E31) (h31 : ∀ κ2 : Ka9, lq9 κ2 E31 (3050, 6 * 3050) → ∀ (x0 : Nat) (x1 : Int32) (x2 : Int32) (x3 : Int32) (x4 : Int32) (x5 : Int32) (x6 : Int32) (M : Mem9), J9 z N X out 15 31 [(0, .ref x0), (1, .int x1), (2, .int x2), (3, .int x3), (4, .int x4), (5, .int x5), (6, .int x6)] [] M κ2 (r31 x0 x1 x2 x3 x4 x5 x6 M)) (hk : lq9 κ (110 + E31) (3050, 6 * 3050)) (x0 : Nat) (x1 : Int32) (x2 : Int32) (x3 : Int32) (x4 : Int32) (x6 : Int32) (x7 : Int32) (x9 : Int32) (x10 : Int32) (s0 : Int32) (M : Mem9) : J9 z N X out 15 166 [(0, .ref x0), (1, .int x1), (2, .int x2), (3, .int x3), (4, .int x4), (6, .int x6), (7, .int x7), (9, .int x9), (10, .int x10)] [.int s0] M κ (f_L_holds_b166 z r31 x0 x1 x2 x3 x4 x6 x7 x9 x10 s0 M) := by
  refine j_ks0 ?_
  refine j_istore (pc := 166) C dL_holds_166 (Nat.le_of_ble_eq_true rfl) (ls' := [(5, .int s0), (0, .ref x0), (1, .int x1), (2, .int x2), (3, .int x3), (4, .int x4), (6, .int x6), (7, .int x7), (9, .int x9), (10, .int x10)]) rfl ?_
  refine j_iconst (pc := 168) C dL_holds_168 (v := 0) rfl ?_
  refine j_istore (pc := 169) C dL_holds_169 (Nat.le_of_ble_eq_true rfl) (ls' := [(11, .int (0 : Int32)), (5, .int s0), (0, .ref x0), (1, .int x1), (2, .int x2), (3, .int x3), (4, .int x4), (6, .int x6), (7, .int x7), (9, .int x9), (10, .int x10)]) rfl ?_
  refine j_loc [2, 3, 4, 5, 6, 1, 7, 8, 9, 10, 0] rfl ?_
  exact t_L_holds_l171 C g31 h31 26 (ks9 κ 0) (lq_st hk (by omega)) x0 x1 x2 x3 x4 s0 x6 x7 x9 x10 (0 : Int32) M
def f_L_holds_b165 (z : Sh9) (r31 : Nat → Int32 → Int32 → Int32 → Int32 → Int32 → Int32 → Mem9 → Re9) (x0 : Nat) (x1 : Int32) (x2 : Int32) (x3 : Int32) (x4 : Int32) (x6 : Int32) (x7 : Int32) (x9 : Int32) (x10 : Int32) (M : Mem9) : Re9 :=
  (f_L_holds_b166 z r31 x0 x1 x2 x3 x4 x6 x7 x9 x10 (0 : Int32) M)
set_option maxRecDepth 20000 in
set_option maxHeartbeats 4000000 in
theorem t_L_holds_b165 {z : Sh9} {N : Nv9} {X : Cx9} {out : Out9 × Mem9} {κ : Ka9} (C : OK9 z N X out 15 (3050, 6 * 3050) cL_holds RL 11 2 []) {E31 : Nat} {r31 : Nat → Int32 → Int32 → Int32 → Int32 → Int32 → Int32 → Mem9 → Re9} (g31 : 7 ≤ E31) (h31 : ∀ κ2 : Ka9, lq9 κ2 E31 (3050, 6 * 3050) → ∀ (x0 : Nat) (x1 : Int32) (x2 : Int32) (x3 : Int32) (x4 : Int32) (x5 : Int32) (x6 : Int32) (M : Mem9), J9 z N X out 15 31 [(0, .ref x0), (1, .int x1), (2, .int x2), (3, .int x3), (4, .int x4), (5, .int x5), (6, .int x6)] [] M κ2 (r31 x0 x1 x2 x3 x4 x5 x6 M)) (hk : lq9 κ (110 + E31) (3050, 6 * 3050)) (x0 : Nat) (x1 : Int32) (x2 : Int32) (x3 : Int32) (x4 : Int32) (x6 : Int32) (x7 : Int32) (x9 : Int32) (x10 : Int32) (M : Mem9) : J9 z N X out 15 165 [(0, .ref x0), (1, .int x1), (2, .int x2), (3, .int x3), (4, .int x4), (6, .int x6), (7, .int x7), (9, .int x9), (10, .int x10)] [] M κ (f_L_holds_b165 z r31 x0 x1 x2 x3 x4 x6 x7 x9 x10 M) := by
  refine j_ks0 ?_
  refine j_iconst (pc := 165) C dL_holds_165 (v := 0) rfl ?_
  exact t_L_holds_b166 (κ := ks9 κ 0) C g31 h31 (lq_st hk (by omega)) x0 x1 x2 x3 x4 x6 x7 x9 x10 (0 : Int32) M
def f_L_holds_b31 (z : Sh9) (r31 : Nat → Int32 → Int32 → Int32 → Int32 → Int32 → Int32 → Mem9 → Re9) (x0 : Nat) (x1 : Int32) (x2 : Int32) (x3 : Int32) (x4 : Int32) (x5 : Int32) (x6 : Int32) (M : Mem9) : Re9 :=
  (if x1 ≤ x6 then (f_L_holds_b492 z  x0 x2 x3 x4 x5 M) else (if x5 = 0 then (f_L_holds_b492 z  x0 x2 x3 x4 x5 M) else (bi9 (f_L_call z x0 (3 : Int32) x6 (0 : Int32) (0 : Int32) M) fun v5 M4 => (bi9 (f_L_call z x0 (3 : Int32) x6 (1 : Int32) (0 : Int32) M4) fun v7 M6 => (nm9 (x2 + v5) fun (y8 : Int32) => (bi9 (f_L_call z x0 (3 : Int32) x6 (5 : Int32) (0 : Int32) M6) fun v10 M9 => (nm9 (x3 + v10) fun (y11 : Int32) => (bi9 (f_L_call z x0 (3 : Int32) x6 (4 : Int32) (0 : Int32) M9) fun v13 M12 => (nm9 (x4 + v13) fun (y14 : Int32) => (if (6 : Int32) < v5 then (f_L_holds_b165 z r31 x0 x1 y8 y11 y14 x6 v5 (1000 : Int32) (0 : Int32) M12) else (if v7 < 0 then (f_L_holds_b165 z r31 x0 x1 y8 y11 y14 x6 v5 (1000 : Int32) (0 : Int32) M12) else (if (4 : Int32) < v7 then (f_L_holds_b165 z r31 x0 x1 y8 y11 y14 x6 v5 (1000 : Int32) (0 : Int32) M12) else (bi9 (f_L_call z x0 (3 : Int32) x6 (2 : Int32) (0 : Int32) M12) fun v16 M15 => (if v16 < 0 then (f_L_holds_b165 z r31 x0 x1 y8 y11 y14 x6 v5 (1000 : Int32) (0 : Int32) M15) else (bi9 (f_L_call z x0 (3 : Int32) x6 (3 : Int32) (0 : Int32) M15) fun v18 M17 => (if v18 < (16 : Int32) then (f_L_holds_b165 z r31 x0 x1 y8 y11 y14 x6 v5 (1000 : Int32) (0 : Int32) M17) else (bi9 (f_L_call z x0 (3 : Int32) x6 (3 : Int32) (0 : Int32) M17) fun v20 M19 => (if (96 : Int32) < v20 then (f_L_holds_b165 z r31 x0 x1 y8 y11 y14 x6 v5 (1000 : Int32) (0 : Int32) M19) else (f_L_holds_b166 z r31 x0 x1 y8 y11 y14 x6 v5 (1000 : Int32) (0 : Int32) (1 : Int32) M19)))))))))))))))))))
set_option maxRecDepth 20000 in
set_option maxHeartbeats 4000000 in
theorem t_L_holds_b31 {z : Sh9} {N : Nv9} {X : Cx9} {out : Out9 × Mem9} {κ : Ka9} (C : OK9 z N X out 15 (3050, 6 * 3050) cL_holds RL 11 2 []) {E31 : Nat} {r31 : Nat → Int32 → Int32 → Int32 → Int32 → Int32 → Int32 → Mem9 → Re9} (g31 : 7 ≤ E31) (h31 : ∀ κ2 : Ka9, lq9 κ2 E31 (3050, 6 * 3050) → ∀ (x0 : Nat) (x1 : Int32) (x2 : Int32) (x3 : Int32) (x4 : Int32) (x5 : Int32) (x6 : Int32) (M : Mem9), J9 z N X out 15 31 [(0, .ref x0), (1, .int x1), (2, .int x2), (3, .int x3), (4, .int x4), (5, .int x5), (6, .int x6)] [] M κ2 (r31 x0 x1 x2 x3 x4 x5 x6 M)) (hk : lq9 κ (117 + E31) (3050, 6 * 3050)) (x0 : Nat) (x1 : Int32) (x2 : Int32) (x3 : Int32) (x4 : Int32) (x5 : Int32) (x6 : Int32) (M : Mem9) : J9 z N X out 15 31 [(0, .ref x0), (1, .int x1), (2, .int x2), (3, .int x3), (4, .int x4), (5, .int x5), (6, .int x6)] [] M κ (f_L_holds_b31 z r31 x0 x1 x2 x3 x4 x5 x6 M) := by
  refine j_ks0 ?_
  refine j_iload (pc := 31) C dL_holds_31 rfl ?_
  refine j_iload_n (pc := 33) C dL_holds_33 rfl ?_
  refine j_icmp_ge (pc := 34) C dL_holds_34 (tgt := 492) (by decide) (fun hc28 => ?_) (fun hc28 => ?_)
  · refine j_loc [0, 2, 3, 4, 5] rfl ?_
    exact t_L_holds_b492 (κ := ks9 κ 0) C  (lq_st hk (by omega)) x0 x2 x3 x4 x5 M
  · refine j_iload (pc := 37) C dL_holds_37 rfl ?_
    refine j_if_eq (pc := 39) C dL_holds_39 (tgt := 492) (by decide) (fun hc27 => ?_) (fun hc27 => ?_)
    · refine j_loc [0, 2, 3, 4, 5] rfl ?_
      exact t_L_holds_b492 (κ := ks9 κ 0) C  (lq_st hk (by omega)) x0 x2 x3 x4 x5 M
    · refine j_aload_n (pc := 42) C dL_holds_42 rfl ?_
      refine j_iconst (pc := 43) C dL_holds_43 (v := 3) rfl ?_
      refine j_iload (pc := 44) C dL_holds_44 rfl ?_
      refine j_iconst (pc := 46) C dL_holds_46 (v := 0) rfl ?_
      refine j_iconst (pc := 47) C dL_holds_47 (v := 0) rfl ?_
      refine j_callQS (pc := 48) (κ := ks9 κ 0) (κ1 := ks9 κ 1) (c := 1) C rfl dL_holds_48 ls_L_160 rfl (Nat.le_of_ble_eq_true rfl) (Nat.le_of_ble_eq_true rfl) (by decide) (ks_add rfl) (lq_le hk (by omega)) (fun l hl o ho => sp_L_call hl ho) (fun v5 M4 => ?_)
      refine j_istore (pc := 51) C dL_holds_51 (Nat.le_of_ble_eq_true rfl) (ls' := [(7, .int v5), (0, .ref x0), (1, .int x1), (2, .int x2), (3, .int x3), (4, .int x4), (5, .int x5), (6, .int x6)]) rfl ?_
      refine j_aload_n (pc := 53) C dL_holds_53 rfl ?_
      refine j_iconst (pc := 54) C dL_holds_54 (v := 3) rfl ?_
      refine j_iload (pc := 55) C dL_holds_55 rfl ?_
      refine j_iconst (pc := 57) C dL_holds_57 (v := 1) rfl ?_
      refine j_iconst (pc := 58) C dL_holds_58 (v := 0) rfl ?_
      refine j_callQS (pc := 59) (κ := ks9 κ 1) (κ1 := ks9 κ 2) (c := 1) C rfl dL_holds_59 ls_L_160 rfl (Nat.le_of_ble_eq_true rfl) (Nat.le_of_ble_eq_true rfl) (by decide) (ks_add rfl) (lq_le hk (by omega)) (fun l hl o ho => sp_L_call hl ho) (fun v7 M6 => ?_)
      refine j_istore (pc := 62) C dL_holds_62 (Nat.le_of_ble_eq_true rfl) (ls' := [(8, .int v7), (7, .int v5), (0, .ref x0), (1, .int x1), (2, .int x2), (3, .int x3), (4, .int x4), (5, .int x5), (6, .int x6)]) rfl ?_
      refine j_sipush (pc := 64) C dL_holds_64 (v := 1000) rfl ?_
      refine j_istore (pc := 67) C dL_holds_67 (Nat.le_of_ble_eq_true rfl) (ls' := [(9, .int (1000 : Int32)), (8, .int v7), (7, .int v5), (0, .ref x0), (1, .int x1), (2, .int x2), (3, .int x3), (4, .int x4), (5, .int x5), (6, .int x6)]) rfl ?_
      refine j_iconst (pc := 69) C dL_holds_69 (v := 0) rfl ?_
      refine j_istore (pc := 70) C dL_holds_70 (Nat.le_of_ble_eq_true rfl) (ls' := [(10, .int (0 : Int32)), (9, .int (1000 : Int32)), (8, .int v7), (7, .int v5), (0, .ref x0), (1, .int x1), (2, .int x2), (3, .int x3), (4, .int x4), (5, .int x5), (6, .int x6)]) rfl ?_
      refine j_iload_n (pc := 72) C dL_holds_72 rfl ?_
      refine j_iload (pc := 73) C dL_holds_73 rfl ?_
      refine j_iadd (pc := 75) C dL_holds_75 ?_
      refine j_nm (st' := fun x9 : Int32 => .int x9 :: []) rfl (fun y8 => ?_)
      refine j_istore_n (pc := 76) C dL_holds_76 (Nat.le_of_ble_eq_true rfl) (ls' := [(2, .int y8), (10, .int (0 : Int32)), (9, .int (1000 : Int32)), (8, .int v7), (7, .int v5), (0, .ref x0), (1, .int x1), (3, .int x3), (4, .int x4), (5, .int x5), (6, .int x6)]) rfl ?_
      refine j_iload_n (pc := 77) C dL_holds_77 rfl ?_
      refine j_aload_n (pc := 78) C dL_holds_78 rfl ?_
      refine j_iconst (pc := 79) C dL_holds_79 (v := 3) rfl ?_
      refine j_iload (pc := 80) C dL_holds_80 rfl ?_
      refine j_iconst (pc := 82) C dL_holds_82 (v := 5) rfl ?_
      refine j_iconst (pc := 83) C dL_holds_83 (v := 0) rfl ?_
      refine j_callQS (pc := 84) (κ := ks9 κ 2) (κ1 := ks9 κ 3) (c := 1) C rfl dL_holds_84 ls_L_160 rfl (Nat.le_of_ble_eq_true rfl) (Nat.le_of_ble_eq_true rfl) (by decide) (ks_add rfl) (lq_le hk (by omega)) (fun l hl o ho => sp_L_call hl ho) (fun v10 M9 => ?_)
      refine j_iadd (pc := 87) C dL_holds_87 ?_
      refine j_nm (st' := fun x9 : Int32 => .int x9 :: []) rfl (fun y11 => ?_)
      refine j_istore_n (pc := 88) C dL_holds_88 (Nat.le_of_ble_eq_true rfl) (ls' := [(3, .int y11), (2, .int y8), (10, .int (0 : Int32)), (9, .int (1000 : Int32)), (8, .int v7), (7, .int v5), (0, .ref x0), (1, .int x1), (4, .int x4), (5, .int x5), (6, .int x6)]) rfl ?_
      refine j_iload (pc := 89) C dL_holds_89 rfl ?_
      refine j_aload_n (pc := 91) C dL_holds_91 rfl ?_
      refine j_iconst (pc := 92) C dL_holds_92 (v := 3) rfl ?_
      refine j_iload (pc := 93) C dL_holds_93 rfl ?_
      refine j_iconst (pc := 95) C dL_holds_95 (v := 4) rfl ?_
      refine j_iconst (pc := 96) C dL_holds_96 (v := 0) rfl ?_
      refine j_callQS (pc := 97) (κ := ks9 κ 3) (κ1 := ks9 κ 4) (c := 1) C rfl dL_holds_97 ls_L_160 rfl (Nat.le_of_ble_eq_true rfl) (Nat.le_of_ble_eq_true rfl) (by decide) (ks_add rfl) (lq_le hk (by omega)) (fun l hl o ho => sp_L_call hl ho) (fun v13 M12 => ?_)
      refine j_iadd (pc := 100) C dL_holds_100 ?_
      refine j_nm (st' := fun x9 : Int32 => .int x9 :: []) rfl (fun y14 => ?_)
      refine j_istore (pc := 101) C dL_holds_101 (Nat.le_of_ble_eq_true rfl) (ls' := [(4, .int y14), (3, .int y11), (2, .int y8), (10, .int (0 : Int32)), (9, .int (1000 : Int32)), (8, .int v7), (7, .int v5), (0, .ref x0), (1, .int x1), (5, .int x5), (6, .int x6)]) rfl ?_
      refine j_iload (pc := 103) C dL_holds_103 rfl ?_
      refine j_bipush (pc := 105) C dL_holds_105 (v := 6) rfl ?_
      refine j_icmp_gt (pc := 107) C dL_holds_107 (tgt := 165) (by decide) (fun hc26 => ?_) (fun hc26 => ?_)
      · refine j_loc [7, 8, 2, 1, 0, 10, 6, 4, 3] rfl ?_
        exact t_L_holds_b165 (κ := ks9 κ 4) C g31 h31 (lq_st hk (by omega)) x0 x1 y8 y11 y14 x6 v5 (1000 : Int32) (0 : Int32) M12
      · refine j_iload (pc := 110) C dL_holds_110 rfl ?_
        refine j_if_lt (pc := 112) C dL_holds_112 (tgt := 165) (by decide) (fun hc25 => ?_) (fun hc25 => ?_)
        · refine j_loc [7, 8, 2, 1, 0, 10, 6, 4, 3] rfl ?_
          exact t_L_holds_b165 (κ := ks9 κ 4) C g31 h31 (lq_st hk (by omega)) x0 x1 y8 y11 y14 x6 v5 (1000 : Int32) (0 : Int32) M12
        · refine j_iload (pc := 115) C dL_holds_115 rfl ?_
          refine j_iconst (pc := 117) C dL_holds_117 (v := 4) rfl ?_
          refine j_icmp_gt (pc := 118) C dL_holds_118 (tgt := 165) (by decide) (fun hc24 => ?_) (fun hc24 => ?_)
          · refine j_loc [7, 8, 2, 1, 0, 10, 6, 4, 3] rfl ?_
            exact t_L_holds_b165 (κ := ks9 κ 4) C g31 h31 (lq_st hk (by omega)) x0 x1 y8 y11 y14 x6 v5 (1000 : Int32) (0 : Int32) M12
          · refine j_aload_n (pc := 121) C dL_holds_121 rfl ?_
            refine j_iconst (pc := 122) C dL_holds_122 (v := 3) rfl ?_
            refine j_iload (pc := 123) C dL_holds_123 rfl ?_
            refine j_iconst (pc := 125) C dL_holds_125 (v := 2) rfl ?_
            refine j_iconst (pc := 126) C dL_holds_126 (v := 0) rfl ?_
            refine j_callQS (pc := 127) (κ := ks9 κ 4) (κ1 := ks9 κ 5) (c := 1) C rfl dL_holds_127 ls_L_160 rfl (Nat.le_of_ble_eq_true rfl) (Nat.le_of_ble_eq_true rfl) (by decide) (ks_add rfl) (lq_le hk (by omega)) (fun l hl o ho => sp_L_call hl ho) (fun v16 M15 => ?_)
            refine j_if_lt (pc := 130) C dL_holds_130 (tgt := 165) (by decide) (fun hc23 => ?_) (fun hc23 => ?_)
            · refine j_loc [7, 8, 2, 1, 0, 10, 6, 4, 3] rfl ?_
              exact t_L_holds_b165 (κ := ks9 κ 5) C g31 h31 (lq_st hk (by omega)) x0 x1 y8 y11 y14 x6 v5 (1000 : Int32) (0 : Int32) M15
            · refine j_aload_n (pc := 133) C dL_holds_133 rfl ?_
              refine j_iconst (pc := 134) C dL_holds_134 (v := 3) rfl ?_
              refine j_iload (pc := 135) C dL_holds_135 rfl ?_
              refine j_iconst (pc := 137) C dL_holds_137 (v := 3) rfl ?_
              refine j_iconst (pc := 138) C dL_holds_138 (v := 0) rfl ?_
              refine j_callQS (pc := 139) (κ := ks9 κ 5) (κ1 := ks9 κ 6) (c := 1) C rfl dL_holds_139 ls_L_160 rfl (Nat.le_of_ble_eq_true rfl) (Nat.le_of_ble_eq_true rfl) (by decide) (ks_add rfl) (lq_le hk (by omega)) (fun l hl o ho => sp_L_call hl ho) (fun v18 M17 => ?_)
              refine j_bipush (pc := 142) C dL_holds_142 (v := 16) rfl ?_
              refine j_icmp_lt (pc := 144) C dL_holds_144 (tgt := 165) (by decide) (fun hc22 => ?_) (fun hc22 => ?_)
              · refine j_loc [7, 8, 2, 1, 0, 10, 6, 4, 3] rfl ?_
                exact t_L_holds_b165 (κ := ks9 κ 6) C g31 h31 (lq_st hk (by omega)) x0 x1 y8 y11 y14 x6 v5 (1000 : Int32) (0 : Int32) M17
              · refine j_aload_n (pc := 147) C dL_holds_147 rfl ?_
                refine j_iconst (pc := 148) C dL_holds_148 (v := 3) rfl ?_
                refine j_iload (pc := 149) C dL_holds_149 rfl ?_
                refine j_iconst (pc := 151) C dL_holds_151 (v := 3) rfl ?_
                refine j_iconst (pc := 152) C dL_holds_152 (v := 0) rfl ?_
                refine j_callQS (pc := 153) (κ := ks9 κ 6) (κ1 := ks9 κ 7) (c := 1) C rfl dL_holds_153 ls_L_160 rfl (Nat.le_of_ble_eq_true rfl) (Nat.le_of_ble_eq_true rfl) (by decide) (ks_add rfl) (lq_le hk (by omega)) (fun l hl o ho => sp_L_call hl ho) (fun v20 M19 => ?_)
                refine j_bipush (pc := 156) C dL_holds_156 (v := 96) rfl ?_
                refine j_icmp_gt (pc := 158) C dL_holds_158 (tgt := 165) (by decide) (fun hc21 => ?_) (fun hc21 => ?_)
                · refine j_loc [7, 8, 2, 1, 0, 10, 6, 4, 3] rfl ?_
                  exact t_L_holds_b165 (κ := ks9 κ 7) C g31 h31 (lq_st hk (by omega)) x0 x1 y8 y11 y14 x6 v5 (1000 : Int32) (0 : Int32) M19
                · refine j_iconst (pc := 161) C dL_holds_161 (v := 1) rfl ?_
                  refine j_goto (pc := 162) C dL_holds_162 (tgt := 166) (by decide) ?_
                  refine j_loc [7, 8, 2, 1, 0, 10, 6, 4, 3] rfl ?_
                  exact t_L_holds_b166 (κ := ks9 κ 7) C g31 h31 (lq_st hk (by omega)) x0 x1 y8 y11 y14 x6 v5 (1000 : Int32) (0 : Int32) (1 : Int32) M19
theorem t_L_holds_l31 {z : Sh9} {N : Nv9} {X : Cx9} {out : Out9 × Mem9} (C : OK9 z N X out 15 (3050, 6 * 3050) cL_holds RL 11 2 [])  : ∀ (n : Nat) (κ : Ka9), lq9 κ (n * 117 + (7)) (3050, 6 * 3050) → ∀ (x0 : Nat) (x1 : Int32) (x2 : Int32) (x3 : Int32) (x4 : Int32) (x5 : Int32) (x6 : Int32) (M : Mem9), J9 z N X out 15 31 [(0, .ref x0), (1, .int x1), (2, .int x2), (3, .int x3), (4, .int x4), (5, .int x5), (6, .int x6)] [] M κ (fx9 (fun _ _ _ _ _ _ _ _ => none) (f_L_holds_b31 z ) n x0 x1 x2 x3 x4 x5 x6 M) := by
  intro n
  induction n with
  | zero => intro κ hk x0 x1 x2 x3 x4 x5 x6 M; exact j_none
  | succ n ih =>
    intro κ hk x0 x1 x2 x3 x4 x5 x6 M
    exact t_L_holds_b31 (κ := κ) C  (E31 := n * 117 + (7)) (by omega) ih (lq_mo hk (by omega)) x0 x1 x2 x3 x4 x5 x6 M
def f_L_holds_b26 (z : Sh9)  (x0 : Nat) (x1 : Int32) (x2 : Int32) (x3 : Int32) (x4 : Int32) (s0 : Int32) (M : Mem9) : Re9 :=
  (fx9 (fun _ _ _ _ _ _ _ _ => none) (f_L_holds_b31 z ) 26 x0 x1 x2 x3 x4 s0 (0 : Int32) M)
set_option maxRecDepth 20000 in
set_option maxHeartbeats 4000000 in
theorem t_L_holds_b26 {z : Sh9} {N : Nv9} {X : Cx9} {out : Out9 × Mem9} {κ : Ka9} (C : OK9 z N X out 15 (3050, 6 * 3050) cL_holds RL 11 2 [])  (hk : lq9 κ (3049) (3050, 6 * 3050)) (x0 : Nat) (x1 : Int32) (x2 : Int32) (x3 : Int32) (x4 : Int32) (s0 : Int32) (M : Mem9) : J9 z N X out 15 26 [(0, .ref x0), (1, .int x1), (2, .int x2), (3, .int x3), (4, .int x4)] [.int s0] M κ (f_L_holds_b26 z  x0 x1 x2 x3 x4 s0 M) := by
  refine j_ks0 ?_
  refine j_istore (pc := 26) C dL_holds_26 (Nat.le_of_ble_eq_true rfl) (ls' := [(5, .int s0), (0, .ref x0), (1, .int x1), (2, .int x2), (3, .int x3), (4, .int x4)]) rfl ?_
  refine j_iconst (pc := 28) C dL_holds_28 (v := 0) rfl ?_
  refine j_istore (pc := 29) C dL_holds_29 (Nat.le_of_ble_eq_true rfl) (ls' := [(6, .int (0 : Int32)), (5, .int s0), (0, .ref x0), (1, .int x1), (2, .int x2), (3, .int x3), (4, .int x4)]) rfl ?_
  refine j_loc [2, 3, 4, 5, 6, 1, 0] rfl ?_
  exact t_L_holds_l31 C  26 (ks9 κ 0) (lq_st hk (by omega)) x0 x1 x2 x3 x4 s0 (0 : Int32) M
def f_L_holds_b0 (z : Sh9)  (x0 : Nat) (M : Mem9) : Re9 :=
  (bi9 (f_L_call z x0 (2 : Int32) (0 : Int32) (0 : Int32) (0 : Int32) M) fun v2 M1 => (if (3 : Int32) < v2 then (f_L_holds_b26 z  x0 v2 (0 : Int32) (0 : Int32) (0 : Int32) (0 : Int32) M1) else (f_L_holds_b26 z  x0 v2 (0 : Int32) (0 : Int32) (0 : Int32) (1 : Int32) M1)))
set_option maxRecDepth 20000 in
set_option maxHeartbeats 4000000 in
theorem t_L_holds_b0 {z : Sh9} {N : Nv9} {X : Cx9} {out : Out9 × Mem9} {κ : Ka9} (C : OK9 z N X out 15 (3050, 6 * 3050) cL_holds RL 11 2 [])  (hk : lq9 κ (3050) (3050, 6 * 3050)) (x0 : Nat) (M : Mem9) : J9 z N X out 15 0 [(0, .ref x0)] [] M κ (f_L_holds_b0 z  x0 M) := by
  refine j_ks0 ?_
  refine j_aload_n (pc := 0) C dL_holds_0 rfl ?_
  refine j_iconst (pc := 1) C dL_holds_1 (v := 2) rfl ?_
  refine j_iconst (pc := 2) C dL_holds_2 (v := 0) rfl ?_
  refine j_iconst (pc := 3) C dL_holds_3 (v := 0) rfl ?_
  refine j_iconst (pc := 4) C dL_holds_4 (v := 0) rfl ?_
  refine j_callQS (pc := 5) (κ := ks9 κ 0) (κ1 := ks9 κ 1) (c := 1) C rfl dL_holds_5 ls_L_160 rfl (Nat.le_of_ble_eq_true rfl) (Nat.le_of_ble_eq_true rfl) (by decide) (ks_add rfl) (lq_le hk (by omega)) (fun l hl o ho => sp_L_call hl ho) (fun v2 M1 => ?_)
  refine j_istore_n (pc := 8) C dL_holds_8 (Nat.le_of_ble_eq_true rfl) (ls' := [(1, .int v2), (0, .ref x0)]) rfl ?_
  refine j_iconst (pc := 9) C dL_holds_9 (v := 0) rfl ?_
  refine j_istore_n (pc := 10) C dL_holds_10 (Nat.le_of_ble_eq_true rfl) (ls' := [(2, .int (0 : Int32)), (1, .int v2), (0, .ref x0)]) rfl ?_
  refine j_iconst (pc := 11) C dL_holds_11 (v := 0) rfl ?_
  refine j_istore_n (pc := 12) C dL_holds_12 (Nat.le_of_ble_eq_true rfl) (ls' := [(3, .int (0 : Int32)), (2, .int (0 : Int32)), (1, .int v2), (0, .ref x0)]) rfl ?_
  refine j_iconst (pc := 13) C dL_holds_13 (v := 0) rfl ?_
  refine j_istore (pc := 14) C dL_holds_14 (Nat.le_of_ble_eq_true rfl) (ls' := [(4, .int (0 : Int32)), (3, .int (0 : Int32)), (2, .int (0 : Int32)), (1, .int v2), (0, .ref x0)]) rfl ?_
  refine j_iload_n (pc := 16) C dL_holds_16 rfl ?_
  refine j_iconst (pc := 17) C dL_holds_17 (v := 3) rfl ?_
  refine j_icmp_gt (pc := 18) C dL_holds_18 (tgt := 25) (by decide) (fun hc3 => ?_) (fun hc3 => ?_)
  · refine j_iconst (pc := 25) C dL_holds_25 (v := 0) rfl ?_
    refine j_loc [4, 3, 2, 1, 0] rfl ?_
    exact t_L_holds_b26 (κ := ks9 κ 1) C  (lq_st hk (by omega)) x0 v2 (0 : Int32) (0 : Int32) (0 : Int32) (0 : Int32) M1
  · refine j_iconst (pc := 21) C dL_holds_21 (v := 1) rfl ?_
    refine j_goto (pc := 22) C dL_holds_22 (tgt := 26) (by decide) ?_
    refine j_loc [4, 3, 2, 1, 0] rfl ?_
    exact t_L_holds_b26 (κ := ks9 κ 1) C  (lq_st hk (by omega)) x0 v2 (0 : Int32) (0 : Int32) (0 : Int32) (1 : Int32) M1
def f_L_holds (z : Sh9) (a0 : Nat) (M : Mem9) : Re9 := f_L_holds_b0 z a0 M
theorem sp_L_holds {l : Launch} {z : Sh9} {N : Nv9} {a0 : Nat} {M : Mem9} {o : Out9 × Mem9} (hl : l.stackTraces = false) (h : f_L_holds z a0 M = some o) : Sp9 l z N yL_holds (Cond.code yL_holds cL_holds 15 (some .boolean)) 11 [.ref a0] M (3050, 6 * 3050) o :=
  sp9_ofQ (rk := 2) (own := RL) (c9 := 3050) (by decide +kernel) rfl (Or.inr (Or.inr (Or.inl ⟨rfl, rfl⟩))) hl (Nat.le_of_ble_eq_true rfl) (fun X C => t_L_holds_b0 (κ := (0, 0)) C ⟨Nat.le_of_eq (Nat.zero_add _), Nat.le_of_eq (Nat.zero_add _)⟩ a0 M) h
def f_L_lorry_b252 (z : Sh9)  (x0 : Nat) (x1 : Nat) (x2 : Int32) (x4 : Int32) (x7 : Int32) (x8 : Int32) (s0 : Int32) (M : Mem9) : Re9 :=
  (bi9 (f_L_call z x0 (3 : Int32) x2 (0 : Int32) (0 : Int32) M) fun v45 M44 => (nm9 ((x7 - x4) + v45) fun (y46 : Int32) => (if s0 = 0 then (rz9 (0 : Int32) M44) else (if y46 < 0 then (rz9 (0 : Int32) M44) else (bi9 (f_L_call z x0 (4 : Int32) x2 y46 (1 : Int32) M44) fun v48 M47 => (bi9 (f_L_call z x0 (4 : Int32) x2 y46 (0 : Int32) M47) fun v50 M49 => (if (v48 - v50) = (20 : Int32) then (bi9 (f_L_call z x0 (11 : Int32) (0 : Int32) (0 : Int32) (0 : Int32) M49) fun v52 M51 => (bi9 (f_L_thrown z v52 M51) fun v54 M53 => (if v54 = 0 then (bi9 (f_L_call z x1 (11 : Int32) (0 : Int32) (0 : Int32) (0 : Int32) M53) fun v56 M55 => (bi9 (f_L_thrown z v56 M55) fun v58 M57 => (if v58 = 0 then (bi9 (f_L_call z x0 (13 : Int32) x2 x7 (0 : Int32) M57) fun v60 M59 => (if v60 = x8 then (rz9 (1 : Int32) M59) else (rz9 (0 : Int32) M59))) else (rz9 (0 : Int32) M57)))) else (rz9 (0 : Int32) M53)))) else (rz9 (0 : Int32) M49))))))))
set_option maxRecDepth 20000 in
set_option maxHeartbeats 4000000 in
theorem t_L_lorry_b252 {z : Sh9} {N : Nv9} {X : Cx9} {out : Out9 × Mem9} {κ : Ka9} (C : OK9 z N X out 11 (30, 6 * 30) cL_lorry RL 12 2 [])  (hk : lq9 κ (6) (30, 6 * 30)) (x0 : Nat) (x1 : Nat) (x2 : Int32) (x4 : Int32) (x7 : Int32) (x8 : Int32) (s0 : Int32) (M : Mem9) : J9 z N X out 11 252 [(0, .ref x0), (1, .ref x1), (2, .int x2), (4, .int x4), (7, .int x7), (8, .int x8)] [.int s0] M κ (f_L_lorry_b252 z  x0 x1 x2 x4 x7 x8 s0 M) := by
  refine j_ks0 ?_
  refine j_istore (pc := 252) C dL_lorry_252 (Nat.le_of_ble_eq_true rfl) (ls' := [(6, .int s0), (0, .ref x0), (1, .ref x1), (2, .int x2), (4, .int x4), (7, .int x7), (8, .int x8)]) rfl ?_
  refine j_iload (pc := 254) C dL_lorry_254 rfl ?_
  refine j_iload (pc := 256) C dL_lorry_256 rfl ?_
  refine j_isub (pc := 258) C dL_lorry_258 ?_
  refine j_aload_n (pc := 259) C dL_lorry_259 rfl ?_
  refine j_iconst (pc := 260) C dL_lorry_260 (v := 3) rfl ?_
  refine j_iload_n (pc := 261) C dL_lorry_261 rfl ?_
  refine j_iconst (pc := 262) C dL_lorry_262 (v := 0) rfl ?_
  refine j_iconst (pc := 263) C dL_lorry_263 (v := 0) rfl ?_
  refine j_callQS (pc := 264) (κ := ks9 κ 0) (κ1 := ks9 κ 1) (c := 1) C rfl dL_lorry_264 ls_L_160 rfl (Nat.le_of_ble_eq_true rfl) (Nat.le_of_ble_eq_true rfl) (by decide) (ks_add rfl) (lq_le hk (by omega)) (fun l hl o ho => sp_L_call hl ho) (fun v45 M44 => ?_)
  refine j_iadd (pc := 267) C dL_lorry_267 ?_
  refine j_nm (st' := fun x9 : Int32 => .int x9 :: []) rfl (fun y46 => ?_)
  refine j_istore (pc := 268) C dL_lorry_268 (Nat.le_of_ble_eq_true rfl) (ls' := [(10, .int y46), (6, .int s0), (0, .ref x0), (1, .ref x1), (2, .int x2), (4, .int x4), (7, .int x7), (8, .int x8)]) rfl ?_
  refine j_iload (pc := 270) C dL_lorry_270 rfl ?_
  refine j_if_eq (pc := 272) C dL_lorry_272 (tgt := 353) (by decide) (fun hc66 => ?_) (fun hc66 => ?_)
  · refine j_iconst (pc := 353) C dL_lorry_353 (v := 0) rfl ?_
    exact j_zreturn (pc := 354) C rfl dL_lorry_354 (lq_end hk (by omega))
  · refine j_iload (pc := 275) C dL_lorry_275 rfl ?_
    refine j_if_lt (pc := 277) C dL_lorry_277 (tgt := 353) (by decide) (fun hc65 => ?_) (fun hc65 => ?_)
    · refine j_iconst (pc := 353) C dL_lorry_353 (v := 0) rfl ?_
      exact j_zreturn (pc := 354) C rfl dL_lorry_354 (lq_end hk (by omega))
    · refine j_aload_n (pc := 280) C dL_lorry_280 rfl ?_
      refine j_iconst (pc := 281) C dL_lorry_281 (v := 4) rfl ?_
      refine j_iload_n (pc := 282) C dL_lorry_282 rfl ?_
      refine j_iload (pc := 283) C dL_lorry_283 rfl ?_
      refine j_iconst (pc := 285) C dL_lorry_285 (v := 1) rfl ?_
      refine j_callQS (pc := 286) (κ := ks9 κ 1) (κ1 := ks9 κ 2) (c := 1) C rfl dL_lorry_286 ls_L_160 rfl (Nat.le_of_ble_eq_true rfl) (Nat.le_of_ble_eq_true rfl) (by decide) (ks_add rfl) (lq_le hk (by omega)) (fun l hl o ho => sp_L_call hl ho) (fun v48 M47 => ?_)
      refine j_aload_n (pc := 289) C dL_lorry_289 rfl ?_
      refine j_iconst (pc := 290) C dL_lorry_290 (v := 4) rfl ?_
      refine j_iload_n (pc := 291) C dL_lorry_291 rfl ?_
      refine j_iload (pc := 292) C dL_lorry_292 rfl ?_
      refine j_iconst (pc := 294) C dL_lorry_294 (v := 0) rfl ?_
      refine j_callQS (pc := 295) (κ := ks9 κ 2) (κ1 := ks9 κ 3) (c := 1) C rfl dL_lorry_295 ls_L_160 rfl (Nat.le_of_ble_eq_true rfl) (Nat.le_of_ble_eq_true rfl) (by decide) (ks_add rfl) (lq_le hk (by omega)) (fun l hl o ho => sp_L_call hl ho) (fun v50 M49 => ?_)
      refine j_isub (pc := 298) C dL_lorry_298 ?_
      refine j_bipush (pc := 299) C dL_lorry_299 (v := 20) rfl ?_
      refine j_icmp_ne (pc := 301) C dL_lorry_301 (tgt := 353) (by decide) (fun hc64 => ?_) (fun hc64 => ?_)
      · refine j_iconst (pc := 353) C dL_lorry_353 (v := 0) rfl ?_
        exact j_zreturn (pc := 354) C rfl dL_lorry_354 (lq_end hk (by omega))
      · refine j_aload_n (pc := 304) C dL_lorry_304 rfl ?_
        refine j_bipush (pc := 305) C dL_lorry_305 (v := 11) rfl ?_
        refine j_iconst (pc := 307) C dL_lorry_307 (v := 0) rfl ?_
        refine j_iconst (pc := 308) C dL_lorry_308 (v := 0) rfl ?_
        refine j_iconst (pc := 309) C dL_lorry_309 (v := 0) rfl ?_
        refine j_callQS (pc := 310) (κ := ks9 κ 3) (κ1 := ks9 κ 4) (c := 1) C rfl dL_lorry_310 ls_L_160 rfl (Nat.le_of_ble_eq_true rfl) (Nat.le_of_ble_eq_true rfl) (by decide) (ks_add rfl) (lq_le hk (by omega)) (fun l hl o ho => sp_L_call hl ho) (fun v52 M51 => ?_)
        refine j_callQS (pc := 313) (κ := ks9 κ 4) (κ1 := ks9 κ 4) (c := 0) C rfl dL_lorry_313 ls_L_203 rfl (Nat.le_of_ble_eq_true rfl) (Nat.le_of_ble_eq_true rfl) (by decide) (ks_add rfl) (lq_le hk (by omega)) (fun l hl o ho => sp_L_thrown hl ho) (fun v54 M53 => ?_)
        refine j_if_ne (pc := 316) C dL_lorry_316 (tgt := 353) (by decide) (fun hc63 => ?_) (fun hc63 => ?_)
        · refine j_iconst (pc := 353) C dL_lorry_353 (v := 0) rfl ?_
          exact j_zreturn (pc := 354) C rfl dL_lorry_354 (lq_end hk (by omega))
        · refine j_aload_n (pc := 319) C dL_lorry_319 rfl ?_
          refine j_bipush (pc := 320) C dL_lorry_320 (v := 11) rfl ?_
          refine j_iconst (pc := 322) C dL_lorry_322 (v := 0) rfl ?_
          refine j_iconst (pc := 323) C dL_lorry_323 (v := 0) rfl ?_
          refine j_iconst (pc := 324) C dL_lorry_324 (v := 0) rfl ?_
          refine j_callQS (pc := 325) (κ := ks9 κ 4) (κ1 := ks9 κ 5) (c := 1) C rfl dL_lorry_325 ls_L_160 rfl (Nat.le_of_ble_eq_true rfl) (Nat.le_of_ble_eq_true rfl) (by decide) (ks_add rfl) (lq_le hk (by omega)) (fun l hl o ho => sp_L_call hl ho) (fun v56 M55 => ?_)
          refine j_callQS (pc := 328) (κ := ks9 κ 5) (κ1 := ks9 κ 5) (c := 0) C rfl dL_lorry_328 ls_L_203 rfl (Nat.le_of_ble_eq_true rfl) (Nat.le_of_ble_eq_true rfl) (by decide) (ks_add rfl) (lq_le hk (by omega)) (fun l hl o ho => sp_L_thrown hl ho) (fun v58 M57 => ?_)
          refine j_if_ne (pc := 331) C dL_lorry_331 (tgt := 353) (by decide) (fun hc62 => ?_) (fun hc62 => ?_)
          · refine j_iconst (pc := 353) C dL_lorry_353 (v := 0) rfl ?_
            exact j_zreturn (pc := 354) C rfl dL_lorry_354 (lq_end hk (by omega))
          · refine j_aload_n (pc := 334) C dL_lorry_334 rfl ?_
            refine j_bipush (pc := 335) C dL_lorry_335 (v := 13) rfl ?_
            refine j_iload_n (pc := 337) C dL_lorry_337 rfl ?_
            refine j_iload (pc := 338) C dL_lorry_338 rfl ?_
            refine j_iconst (pc := 340) C dL_lorry_340 (v := 0) rfl ?_
            refine j_callQS (pc := 341) (κ := ks9 κ 5) (κ1 := ks9 κ 6) (c := 1) C rfl dL_lorry_341 ls_L_160 rfl (Nat.le_of_ble_eq_true rfl) (Nat.le_of_ble_eq_true rfl) (by decide) (ks_add rfl) (lq_le hk (by omega)) (fun l hl o ho => sp_L_call hl ho) (fun v60 M59 => ?_)
            refine j_iload (pc := 344) C dL_lorry_344 rfl ?_
            refine j_icmp_ne (pc := 346) C dL_lorry_346 (tgt := 353) (by decide) (fun hc61 => ?_) (fun hc61 => ?_)
            · refine j_iconst (pc := 353) C dL_lorry_353 (v := 0) rfl ?_
              exact j_zreturn (pc := 354) C rfl dL_lorry_354 (lq_end hk (by omega))
            · refine j_iconst (pc := 349) C dL_lorry_349 (v := 1) rfl ?_
              refine j_goto (pc := 350) C dL_lorry_350 (tgt := 354) (by decide) ?_
              exact j_zreturn (pc := 354) C rfl dL_lorry_354 (lq_end hk (by omega))
def f_L_lorry_b251 (z : Sh9)  (x0 : Nat) (x1 : Nat) (x2 : Int32) (x4 : Int32) (x7 : Int32) (x8 : Int32) (M : Mem9) : Re9 :=
  (f_L_lorry_b252 z  x0 x1 x2 x4 x7 x8 (0 : Int32) M)
set_option maxRecDepth 20000 in
set_option maxHeartbeats 4000000 in
theorem t_L_lorry_b251 {z : Sh9} {N : Nv9} {X : Cx9} {out : Out9 × Mem9} {κ : Ka9} (C : OK9 z N X out 11 (30, 6 * 30) cL_lorry RL 12 2 [])  (hk : lq9 κ (6) (30, 6 * 30)) (x0 : Nat) (x1 : Nat) (x2 : Int32) (x4 : Int32) (x7 : Int32) (x8 : Int32) (M : Mem9) : J9 z N X out 11 251 [(0, .ref x0), (1, .ref x1), (2, .int x2), (4, .int x4), (7, .int x7), (8, .int x8)] [] M κ (f_L_lorry_b251 z  x0 x1 x2 x4 x7 x8 M) := by
  refine j_ks0 ?_
  refine j_iconst (pc := 251) C dL_lorry_251 (v := 0) rfl ?_
  exact t_L_lorry_b252 (κ := ks9 κ 0) C  (lq_st hk (by omega)) x0 x1 x2 x4 x7 x8 (0 : Int32) M
def f_L_lorry_b196 (z : Sh9)  (x0 : Nat) (x1 : Nat) (x2 : Int32) (x4 : Int32) (x7 : Int32) (x8 : Int32) (s0 : Int32) (M : Mem9) : Re9 :=
  (if x8 < (1 : Int32) then (rz9 s0 M) else (if x8 ≤ (60 : Int32) then (if s0 = 0 then (f_L_lorry_b251 z  x0 x1 x2 x4 x7 x8 M) else (bi9 (f_L_call z x0 (9 : Int32) x8 (0 : Int32) (0 : Int32) M) fun v35 M34 => (if v35 < (1 : Int32) then (f_L_lorry_b251 z  x0 x1 x2 x4 x7 x8 M34) else (bi9 (f_L_call z x1 (9 : Int32) x8 (0 : Int32) (0 : Int32) M34) fun v37 M36 => (if v37 < (1 : Int32) then (f_L_lorry_b251 z  x0 x1 x2 x4 x7 x8 M36) else (f_L_lorry_b252 z  x0 x1 x2 x4 x7 x8 (1 : Int32) M36)))))) else (rz9 s0 M)))
set_option maxRecDepth 20000 in
set_option maxHeartbeats 4000000 in
theorem t_L_lorry_b196 {z : Sh9} {N : Nv9} {X : Cx9} {out : Out9 × Mem9} {κ : Ka9} (C : OK9 z N X out 11 (30, 6 * 30) cL_lorry RL 12 2 [])  (hk : lq9 κ (8) (30, 6 * 30)) (x0 : Nat) (x1 : Nat) (x2 : Int32) (x4 : Int32) (x7 : Int32) (x8 : Int32) (s0 : Int32) (M : Mem9) : J9 z N X out 11 196 [(0, .ref x0), (1, .ref x1), (2, .int x2), (4, .int x4), (7, .int x7), (8, .int x8)] [.int s0] M κ (f_L_lorry_b196 z  x0 x1 x2 x4 x7 x8 s0 M) := by
  refine j_ks0 ?_
  refine j_istore (pc := 196) C dL_lorry_196 (Nat.le_of_ble_eq_true rfl) (ls' := [(6, .int s0), (0, .ref x0), (1, .ref x1), (2, .int x2), (4, .int x4), (7, .int x7), (8, .int x8)]) rfl ?_
  refine j_iload (pc := 198) C dL_lorry_198 rfl ?_
  refine j_iconst (pc := 200) C dL_lorry_200 (v := 1) rfl ?_
  refine j_icmp_lt (pc := 201) C dL_lorry_201 (tgt := 211) (by decide) (fun hc42 => ?_) (fun hc42 => ?_)
  · refine j_iload (pc := 211) C dL_lorry_211 rfl ?_
    exact j_zreturn (pc := 213) C rfl dL_lorry_213 (lq_end hk (by omega))
  · refine j_iload (pc := 204) C dL_lorry_204 rfl ?_
    refine j_bipush (pc := 206) C dL_lorry_206 (v := 60) rfl ?_
    refine j_icmp_le (pc := 208) C dL_lorry_208 (tgt := 214) (by decide) (fun hc41 => ?_) (fun hc41 => ?_)
    · refine j_iload (pc := 214) C dL_lorry_214 rfl ?_
      refine j_if_eq (pc := 216) C dL_lorry_216 (tgt := 251) (by decide) (fun hc40 => ?_) (fun hc40 => ?_)
      · refine j_loc [1, 2, 3, 4, 5, 6] rfl ?_
        exact t_L_lorry_b251 (κ := ks9 κ 0) C  (lq_st hk (by omega)) x0 x1 x2 x4 x7 x8 M
      · refine j_aload_n (pc := 219) C dL_lorry_219 rfl ?_
        refine j_bipush (pc := 220) C dL_lorry_220 (v := 9) rfl ?_
        refine j_iload (pc := 222) C dL_lorry_222 rfl ?_
        refine j_iconst (pc := 224) C dL_lorry_224 (v := 0) rfl ?_
        refine j_iconst (pc := 225) C dL_lorry_225 (v := 0) rfl ?_
        refine j_callQS (pc := 226) (κ := ks9 κ 0) (κ1 := ks9 κ 1) (c := 1) C rfl dL_lorry_226 ls_L_160 rfl (Nat.le_of_ble_eq_true rfl) (Nat.le_of_ble_eq_true rfl) (by decide) (ks_add rfl) (lq_le hk (by omega)) (fun l hl o ho => sp_L_call hl ho) (fun v35 M34 => ?_)
        refine j_iconst (pc := 229) C dL_lorry_229 (v := 1) rfl ?_
        refine j_icmp_lt (pc := 230) C dL_lorry_230 (tgt := 251) (by decide) (fun hc39 => ?_) (fun hc39 => ?_)
        · refine j_loc [1, 2, 3, 4, 5, 6] rfl ?_
          exact t_L_lorry_b251 (κ := ks9 κ 1) C  (lq_st hk (by omega)) x0 x1 x2 x4 x7 x8 M34
        · refine j_aload_n (pc := 233) C dL_lorry_233 rfl ?_
          refine j_bipush (pc := 234) C dL_lorry_234 (v := 9) rfl ?_
          refine j_iload (pc := 236) C dL_lorry_236 rfl ?_
          refine j_iconst (pc := 238) C dL_lorry_238 (v := 0) rfl ?_
          refine j_iconst (pc := 239) C dL_lorry_239 (v := 0) rfl ?_
          refine j_callQS (pc := 240) (κ := ks9 κ 1) (κ1 := ks9 κ 2) (c := 1) C rfl dL_lorry_240 ls_L_160 rfl (Nat.le_of_ble_eq_true rfl) (Nat.le_of_ble_eq_true rfl) (by decide) (ks_add rfl) (lq_le hk (by omega)) (fun l hl o ho => sp_L_call hl ho) (fun v37 M36 => ?_)
          refine j_iconst (pc := 243) C dL_lorry_243 (v := 1) rfl ?_
          refine j_icmp_lt (pc := 244) C dL_lorry_244 (tgt := 251) (by decide) (fun hc38 => ?_) (fun hc38 => ?_)
          · refine j_loc [1, 2, 3, 4, 5, 6] rfl ?_
            exact t_L_lorry_b251 (κ := ks9 κ 2) C  (lq_st hk (by omega)) x0 x1 x2 x4 x7 x8 M36
          · refine j_iconst (pc := 247) C dL_lorry_247 (v := 1) rfl ?_
            refine j_goto (pc := 248) C dL_lorry_248 (tgt := 252) (by decide) ?_
            refine j_loc [1, 2, 3, 4, 5, 6] rfl ?_
            exact t_L_lorry_b252 (κ := ks9 κ 2) C  (lq_st hk (by omega)) x0 x1 x2 x4 x7 x8 (1 : Int32) M36
    · refine j_iload (pc := 211) C dL_lorry_211 rfl ?_
      exact j_zreturn (pc := 213) C rfl dL_lorry_213 (lq_end hk (by omega))
def f_L_lorry_b195 (z : Sh9)  (x0 : Nat) (x1 : Nat) (x2 : Int32) (x4 : Int32) (x7 : Int32) (x8 : Int32) (M : Mem9) : Re9 :=
  (f_L_lorry_b196 z  x0 x1 x2 x4 x7 x8 (0 : Int32) M)
set_option maxRecDepth 20000 in
set_option maxHeartbeats 4000000 in
theorem t_L_lorry_b195 {z : Sh9} {N : Nv9} {X : Cx9} {out : Out9 × Mem9} {κ : Ka9} (C : OK9 z N X out 11 (30, 6 * 30) cL_lorry RL 12 2 [])  (hk : lq9 κ (8) (30, 6 * 30)) (x0 : Nat) (x1 : Nat) (x2 : Int32) (x4 : Int32) (x7 : Int32) (x8 : Int32) (M : Mem9) : J9 z N X out 11 195 [(0, .ref x0), (1, .ref x1), (2, .int x2), (4, .int x4), (7, .int x7), (8, .int x8)] [] M κ (f_L_lorry_b195 z  x0 x1 x2 x4 x7 x8 M) := by
  refine j_ks0 ?_
  refine j_iconst (pc := 195) C dL_lorry_195 (v := 0) rfl ?_
  exact t_L_lorry_b196 (κ := ks9 κ 0) C  (lq_st hk (by omega)) x0 x1 x2 x4 x7 x8 (0 : Int32) M
def f_L_lorry_b188 (z : Sh9)  (x0 : Nat) (x1 : Nat) (x2 : Int32) (x4 : Int32) (x7 : Int32) (x8 : Int32) (s0 : Int32) (s1 : Int32) (M : Mem9) : Re9 :=
  (if s1 = s0 then (f_L_lorry_b196 z  x0 x1 x2 x4 x7 x8 (1 : Int32) M) else (f_L_lorry_b195 z  x0 x1 x2 x4 x7 x8 M))
set_option maxRecDepth 20000 in
set_option maxHeartbeats 4000000 in
theorem t_L_lorry_b188 {z : Sh9} {N : Nv9} {X : Cx9} {out : Out9 × Mem9} {κ : Ka9} (C : OK9 z N X out 11 (30, 6 * 30) cL_lorry RL 12 2 [])  (hk : lq9 κ (8) (30, 6 * 30)) (x0 : Nat) (x1 : Nat) (x2 : Int32) (x4 : Int32) (x7 : Int32) (x8 : Int32) (s0 : Int32) (s1 : Int32) (M : Mem9) : J9 z N X out 11 188 [(0, .ref x0), (1, .ref x1), (2, .int x2), (4, .int x4), (7, .int x7), (8, .int x8)] [.int s0, .int s1] M κ (f_L_lorry_b188 z  x0 x1 x2 x4 x7 x8 s0 s1 M) := by
  refine j_ks0 ?_
  refine j_icmp_ne (pc := 188) C dL_lorry_188 (tgt := 195) (by decide) (fun hc43 => ?_) (fun hc43 => ?_)
  · exact t_L_lorry_b195 (κ := ks9 κ 0) C  (lq_st hk (by omega)) x0 x1 x2 x4 x7 x8 M
  · refine j_iconst (pc := 191) C dL_lorry_191 (v := 1) rfl ?_
    refine j_goto (pc := 192) C dL_lorry_192 (tgt := 196) (by decide) ?_
    exact t_L_lorry_b196 (κ := ks9 κ 0) C  (lq_st hk (by omega)) x0 x1 x2 x4 x7 x8 (1 : Int32) M
def f_L_lorry_b176 (z : Sh9)  (x0 : Nat) (x1 : Nat) (x2 : Int32) (x4 : Int32) (x7 : Int32) (x8 : Int32) (x9 : Int32) (s0 : Int32) (M : Mem9) : Re9 :=
  (if x9 ≤ (20 : Int32) then (f_L_lorry_b188 z  x0 x1 x2 x4 x7 x8 (0 : Int32) s0 M) else (f_L_lorry_b188 z  x0 x1 x2 x4 x7 x8 (1 : Int32) s0 M))
set_option maxRecDepth 20000 in
set_option maxHeartbeats 4000000 in
theorem t_L_lorry_b176 {z : Sh9} {N : Nv9} {X : Cx9} {out : Out9 × Mem9} {κ : Ka9} (C : OK9 z N X out 11 (30, 6 * 30) cL_lorry RL 12 2 [])  (hk : lq9 κ (8) (30, 6 * 30)) (x0 : Nat) (x1 : Nat) (x2 : Int32) (x4 : Int32) (x7 : Int32) (x8 : Int32) (x9 : Int32) (s0 : Int32) (M : Mem9) : J9 z N X out 11 176 [(0, .ref x0), (1, .ref x1), (2, .int x2), (4, .int x4), (7, .int x7), (8, .int x8), (9, .int x9)] [.int s0] M κ (f_L_lorry_b176 z  x0 x1 x2 x4 x7 x8 x9 s0 M) := by
  refine j_ks0 ?_
  refine j_iload (pc := 176) C dL_lorry_176 rfl ?_
  refine j_bipush (pc := 178) C dL_lorry_178 (v := 20) rfl ?_
  refine j_icmp_le (pc := 180) C dL_lorry_180 (tgt := 187) (by decide) (fun hc33 => ?_) (fun hc33 => ?_)
  · refine j_iconst (pc := 187) C dL_lorry_187 (v := 0) rfl ?_
    refine j_loc [0, 1, 2, 3, 4, 5] rfl ?_
    exact t_L_lorry_b188 (κ := ks9 κ 0) C  (lq_st hk (by omega)) x0 x1 x2 x4 x7 x8 (0 : Int32) s0 M
  · refine j_iconst (pc := 183) C dL_lorry_183 (v := 1) rfl ?_
    refine j_goto (pc := 184) C dL_lorry_184 (tgt := 188) (by decide) ?_
    refine j_loc [0, 1, 2, 3, 4, 5] rfl ?_
    exact t_L_lorry_b188 (κ := ks9 κ 0) C  (lq_st hk (by omega)) x0 x1 x2 x4 x7 x8 (1 : Int32) s0 M
def f_L_lorry_b90 (z : Sh9)  (x0 : Nat) (x1 : Nat) (x2 : Int32) (x3 : Int32) (x4 : Int32) (x6 : Int32) (M : Mem9) : Re9 :=
  (if x4 = 0 then (if x6 = 0 then (rz9 (0 : Int32) M) else (bi9 (f_L_call z x0 (13 : Int32) x2 (0 : Int32) (0 : Int32) M) fun v29 M28 => (if v29 = (-9999001 : Int32) then (rz9 (1 : Int32) M28) else (rz9 (0 : Int32) M28)))) else ((rm9 x3 x4).bind fun v18 => (bi9 (f_L_call z x0 (13 : Int32) x2 v18 (0 : Int32) M) fun v20 M19 => (bi9 (f_L_call z x0 (4 : Int32) x2 v18 (1 : Int32) M19) fun v22 M21 => (bi9 (f_L_call z x0 (4 : Int32) x2 v18 (0 : Int32) M21) fun v24 M23 => (nm9 ((v22 - v24) + (1 : Int32)) fun (y25 : Int32) => (if x6 = 0 then (f_L_lorry_b195 z  x0 x1 x2 x4 v18 v20 M23) else (if v20 = 0 then (f_L_lorry_b176 z  x0 x1 x2 x4 v18 v20 y25 (1 : Int32) M23) else (f_L_lorry_b176 z  x0 x1 x2 x4 v18 v20 y25 (0 : Int32) M23)))))))))
set_option maxRecDepth 20000 in
set_option maxHeartbeats 4000000 in
theorem t_L_lorry_b90 {z : Sh9} {N : Nv9} {X : Cx9} {out : Out9 × Mem9} {κ : Ka9} (C : OK9 z N X out 11 (30, 6 * 30) cL_lorry RL 12 2 [])  (hk : lq9 κ (11) (30, 6 * 30)) (x0 : Nat) (x1 : Nat) (x2 : Int32) (x3 : Int32) (x4 : Int32) (x6 : Int32) (M : Mem9) : J9 z N X out 11 90 [(0, .ref x0), (1, .ref x1), (2, .int x2), (3, .int x3), (4, .int x4), (6, .int x6)] [] M κ (f_L_lorry_b90 z  x0 x1 x2 x3 x4 x6 M) := by
  refine j_ks0 ?_
  refine j_iload (pc := 90) C dL_lorry_90 rfl ?_
  refine j_if_ne (pc := 92) C dL_lorry_92 (tgt := 120) (by decide) (fun hc32 => ?_) (fun hc32 => ?_)
  · refine j_iload_n (pc := 120) C dL_lorry_120 rfl ?_
    refine j_iload (pc := 121) C dL_lorry_121 rfl ?_
    refine j_irem (pc := 123) C dL_lorry_123 (fun v18 => ?_)
    refine j_istore (pc := 124) C dL_lorry_124 (Nat.le_of_ble_eq_true rfl) (ls' := [(7, .int v18), (0, .ref x0), (1, .ref x1), (2, .int x2), (3, .int x3), (4, .int x4), (6, .int x6)]) rfl ?_
    refine j_aload_n (pc := 126) C dL_lorry_126 rfl ?_
    refine j_bipush (pc := 127) C dL_lorry_127 (v := 13) rfl ?_
    refine j_iload_n (pc := 129) C dL_lorry_129 rfl ?_
    refine j_iload (pc := 130) C dL_lorry_130 rfl ?_
    refine j_iconst (pc := 132) C dL_lorry_132 (v := 0) rfl ?_
    refine j_callQS (pc := 133) (κ := ks9 κ 0) (κ1 := ks9 κ 1) (c := 1) C rfl dL_lorry_133 ls_L_160 rfl (Nat.le_of_ble_eq_true rfl) (Nat.le_of_ble_eq_true rfl) (by decide) (ks_add rfl) (lq_le hk (by omega)) (fun l hl o ho => sp_L_call hl ho) (fun v20 M19 => ?_)
    refine j_istore (pc := 136) C dL_lorry_136 (Nat.le_of_ble_eq_true rfl) (ls' := [(8, .int v20), (7, .int v18), (0, .ref x0), (1, .ref x1), (2, .int x2), (3, .int x3), (4, .int x4), (6, .int x6)]) rfl ?_
    refine j_aload_n (pc := 138) C dL_lorry_138 rfl ?_
    refine j_iconst (pc := 139) C dL_lorry_139 (v := 4) rfl ?_
    refine j_iload_n (pc := 140) C dL_lorry_140 rfl ?_
    refine j_iload (pc := 141) C dL_lorry_141 rfl ?_
    refine j_iconst (pc := 143) C dL_lorry_143 (v := 1) rfl ?_
    refine j_callQS (pc := 144) (κ := ks9 κ 1) (κ1 := ks9 κ 2) (c := 1) C rfl dL_lorry_144 ls_L_160 rfl (Nat.le_of_ble_eq_true rfl) (Nat.le_of_ble_eq_true rfl) (by decide) (ks_add rfl) (lq_le hk (by omega)) (fun l hl o ho => sp_L_call hl ho) (fun v22 M21 => ?_)
    refine j_aload_n (pc := 147) C dL_lorry_147 rfl ?_
    refine j_iconst (pc := 148) C dL_lorry_148 (v := 4) rfl ?_
    refine j_iload_n (pc := 149) C dL_lorry_149 rfl ?_
    refine j_iload (pc := 150) C dL_lorry_150 rfl ?_
    refine j_iconst (pc := 152) C dL_lorry_152 (v := 0) rfl ?_
    refine j_callQS (pc := 153) (κ := ks9 κ 2) (κ1 := ks9 κ 3) (c := 1) C rfl dL_lorry_153 ls_L_160 rfl (Nat.le_of_ble_eq_true rfl) (Nat.le_of_ble_eq_true rfl) (by decide) (ks_add rfl) (lq_le hk (by omega)) (fun l hl o ho => sp_L_call hl ho) (fun v24 M23 => ?_)
    refine j_isub (pc := 156) C dL_lorry_156 ?_
    refine j_iconst (pc := 157) C dL_lorry_157 (v := 1) rfl ?_
    refine j_iadd (pc := 158) C dL_lorry_158 ?_
    refine j_nm (st' := fun x9 : Int32 => .int x9 :: []) rfl (fun y25 => ?_)
    refine j_istore (pc := 159) C dL_lorry_159 (Nat.le_of_ble_eq_true rfl) (ls' := [(9, .int y25), (8, .int v20), (7, .int v18), (0, .ref x0), (1, .ref x1), (2, .int x2), (3, .int x3), (4, .int x4), (6, .int x6)]) rfl ?_
    refine j_iload (pc := 161) C dL_lorry_161 rfl ?_
    refine j_if_eq (pc := 163) C dL_lorry_163 (tgt := 195) (by decide) (fun hc27 => ?_) (fun hc27 => ?_)
    · refine j_loc [3, 4, 5, 7, 2, 1] rfl ?_
      exact t_L_lorry_b195 (κ := ks9 κ 3) C  (lq_st hk (by omega)) x0 x1 x2 x4 v18 v20 M23
    · refine j_iload (pc := 166) C dL_lorry_166 rfl ?_
      refine j_if_ne (pc := 168) C dL_lorry_168 (tgt := 175) (by decide) (fun hc26 => ?_) (fun hc26 => ?_)
      · refine j_iconst (pc := 175) C dL_lorry_175 (v := 0) rfl ?_
        refine j_loc [3, 4, 5, 7, 2, 1, 0] rfl ?_
        exact t_L_lorry_b176 (κ := ks9 κ 3) C  (lq_st hk (by omega)) x0 x1 x2 x4 v18 v20 y25 (0 : Int32) M23
      · refine j_iconst (pc := 171) C dL_lorry_171 (v := 1) rfl ?_
        refine j_goto (pc := 172) C dL_lorry_172 (tgt := 176) (by decide) ?_
        refine j_loc [3, 4, 5, 7, 2, 1, 0] rfl ?_
        exact t_L_lorry_b176 (κ := ks9 κ 3) C  (lq_st hk (by omega)) x0 x1 x2 x4 v18 v20 y25 (1 : Int32) M23
  · refine j_iload (pc := 95) C dL_lorry_95 rfl ?_
    refine j_if_eq (pc := 97) C dL_lorry_97 (tgt := 118) (by decide) (fun hc31 => ?_) (fun hc31 => ?_)
    · refine j_iconst (pc := 118) C dL_lorry_118 (v := 0) rfl ?_
      exact j_zreturn (pc := 119) C rfl dL_lorry_119 (lq_end hk (by omega))
    · refine j_aload_n (pc := 100) C dL_lorry_100 rfl ?_
      refine j_bipush (pc := 101) C dL_lorry_101 (v := 13) rfl ?_
      refine j_iload_n (pc := 103) C dL_lorry_103 rfl ?_
      refine j_iconst (pc := 104) C dL_lorry_104 (v := 0) rfl ?_
      refine j_iconst (pc := 105) C dL_lorry_105 (v := 0) rfl ?_
      refine j_callQS (pc := 106) (κ := ks9 κ 0) (κ1 := ks9 κ 1) (c := 1) C rfl dL_lorry_106 ls_L_160 rfl (Nat.le_of_ble_eq_true rfl) (Nat.le_of_ble_eq_true rfl) (by decide) (ks_add rfl) (lq_le hk (by omega)) (fun l hl o ho => sp_L_call hl ho) (fun v29 M28 => ?_)
      refine j_ldc (pc := 109) C dL_lorry_109 (v := -9999001) w9_489 ?_
      refine j_icmp_ne (pc := 111) C dL_lorry_111 (tgt := 118) (by decide) (fun hc30 => ?_) (fun hc30 => ?_)
      · refine j_iconst (pc := 118) C dL_lorry_118 (v := 0) rfl ?_
        exact j_zreturn (pc := 119) C rfl dL_lorry_119 (lq_end hk (by omega))
      · refine j_iconst (pc := 114) C dL_lorry_114 (v := 1) rfl ?_
        refine j_goto (pc := 115) C dL_lorry_115 (tgt := 119) (by decide) ?_
        exact j_zreturn (pc := 119) C rfl dL_lorry_119 (lq_end hk (by omega))
def f_L_lorry_b88 (z : Sh9)  (x0 : Nat) (x1 : Nat) (x2 : Int32) (x3 : Int32) (x4 : Int32) (s0 : Int32) (M : Mem9) : Re9 :=
  (f_L_lorry_b90 z  x0 x1 x2 x3 x4 s0 M)
set_option maxRecDepth 20000 in
set_option maxHeartbeats 4000000 in
theorem t_L_lorry_b88 {z : Sh9} {N : Nv9} {X : Cx9} {out : Out9 × Mem9} {κ : Ka9} (C : OK9 z N X out 11 (30, 6 * 30) cL_lorry RL 12 2 [])  (hk : lq9 κ (11) (30, 6 * 30)) (x0 : Nat) (x1 : Nat) (x2 : Int32) (x3 : Int32) (x4 : Int32) (s0 : Int32) (M : Mem9) : J9 z N X out 11 88 [(0, .ref x0), (1, .ref x1), (2, .int x2), (3, .int x3), (4, .int x4)] [.int s0] M κ (f_L_lorry_b88 z  x0 x1 x2 x3 x4 s0 M) := by
  refine j_ks0 ?_
  refine j_istore (pc := 88) C dL_lorry_88 (Nat.le_of_ble_eq_true rfl) (ls' := [(6, .int s0), (0, .ref x0), (1, .ref x1), (2, .int x2), (3, .int x3), (4, .int x4)]) rfl ?_
  refine j_loc [1, 2, 3, 4, 5, 0] rfl ?_
  exact t_L_lorry_b90 (κ := ks9 κ 0) C  (lq_st hk (by omega)) x0 x1 x2 x3 x4 s0 M
def f_L_lorry_b87 (z : Sh9)  (x0 : Nat) (x1 : Nat) (x2 : Int32) (x3 : Int32) (x4 : Int32) (M : Mem9) : Re9 :=
  (f_L_lorry_b88 z  x0 x1 x2 x3 x4 (0 : Int32) M)
set_option maxRecDepth 20000 in
set_option maxHeartbeats 4000000 in
theorem t_L_lorry_b87 {z : Sh9} {N : Nv9} {X : Cx9} {out : Out9 × Mem9} {κ : Ka9} (C : OK9 z N X out 11 (30, 6 * 30) cL_lorry RL 12 2 [])  (hk : lq9 κ (11) (30, 6 * 30)) (x0 : Nat) (x1 : Nat) (x2 : Int32) (x3 : Int32) (x4 : Int32) (M : Mem9) : J9 z N X out 11 87 [(0, .ref x0), (1, .ref x1), (2, .int x2), (3, .int x3), (4, .int x4)] [] M κ (f_L_lorry_b87 z  x0 x1 x2 x3 x4 M) := by
  refine j_ks0 ?_
  refine j_iconst (pc := 87) C dL_lorry_87 (v := 0) rfl ?_
  exact t_L_lorry_b88 (κ := ks9 κ 0) C  (lq_st hk (by omega)) x0 x1 x2 x3 x4 (0 : Int32) M
def f_L_lorry_b43 (z : Sh9)  (x0 : Nat) (x1 : Nat) (x2 : Int32) (x3 : Int32) (x4 : Int32) (x5 : Int32) (s0 : Int32) (M : Mem9) : Re9 :=
  (if x5 = (-1 : Int32) then (f_L_lorry_b90 z  x0 x1 x2 x3 x4 s0 M) else (if (60 : Int32) < x5 then (f_L_lorry_b90 z  x0 x1 x2 x3 x4 s0 M) else (if s0 = 0 then (f_L_lorry_b87 z  x0 x1 x2 x3 x4 M) else (bi9 (f_L_breaks z x0 x2 x5 M) fun v10 M9 => (if v10 = 0 then (f_L_lorry_b87 z  x0 x1 x2 x3 x4 M9) else (bi9 (f_L_breaks z x1 x2 x5 M9) fun v12 M11 => (if v12 = 0 then (f_L_lorry_b87 z  x0 x1 x2 x3 x4 M11) else (f_L_lorry_b88 z  x0 x1 x2 x3 x4 (1 : Int32) M11))))))))
set_option maxRecDepth 20000 in
set_option maxHeartbeats 4000000 in
theorem t_L_lorry_b43 {z : Sh9} {N : Nv9} {X : Cx9} {out : Out9 × Mem9} {κ : Ka9} (C : OK9 z N X out 11 (30, 6 * 30) cL_lorry RL 12 2 [])  (hk : lq9 κ (27) (30, 6 * 30)) (x0 : Nat) (x1 : Nat) (x2 : Int32) (x3 : Int32) (x4 : Int32) (x5 : Int32) (s0 : Int32) (M : Mem9) : J9 z N X out 11 43 [(0, .ref x0), (1, .ref x1), (2, .int x2), (3, .int x3), (4, .int x4), (5, .int x5)] [.int s0] M κ (f_L_lorry_b43 z  x0 x1 x2 x3 x4 x5 s0 M) := by
  refine j_ks0 ?_
  refine j_istore (pc := 43) C dL_lorry_43 (Nat.le_of_ble_eq_true rfl) (ls' := [(6, .int s0), (0, .ref x0), (1, .ref x1), (2, .int x2), (3, .int x3), (4, .int x4), (5, .int x5)]) rfl ?_
  refine j_iload (pc := 45) C dL_lorry_45 rfl ?_
  refine j_iconst (pc := 47) C dL_lorry_47 (v := -1) rfl ?_
  refine j_icmp_eq (pc := 48) C dL_lorry_48 (tgt := 90) (by decide) (fun hc17 => ?_) (fun hc17 => ?_)
  · refine j_loc [1, 2, 3, 4, 5, 0] rfl ?_
    exact t_L_lorry_b90 (κ := ks9 κ 0) C  (lq_st hk (by omega)) x0 x1 x2 x3 x4 s0 M
  · refine j_iload (pc := 51) C dL_lorry_51 rfl ?_
    refine j_bipush (pc := 53) C dL_lorry_53 (v := 60) rfl ?_
    refine j_icmp_gt (pc := 55) C dL_lorry_55 (tgt := 90) (by decide) (fun hc16 => ?_) (fun hc16 => ?_)
    · refine j_loc [1, 2, 3, 4, 5, 0] rfl ?_
      exact t_L_lorry_b90 (κ := ks9 κ 0) C  (lq_st hk (by omega)) x0 x1 x2 x3 x4 s0 M
    · refine j_iload (pc := 58) C dL_lorry_58 rfl ?_
      refine j_if_eq (pc := 60) C dL_lorry_60 (tgt := 87) (by decide) (fun hc15 => ?_) (fun hc15 => ?_)
      · refine j_loc [1, 2, 3, 4, 5] rfl ?_
        exact t_L_lorry_b87 (κ := ks9 κ 0) C  (lq_st hk (by omega)) x0 x1 x2 x3 x4 M
      · refine j_aload_n (pc := 63) C dL_lorry_63 rfl ?_
        refine j_iload_n (pc := 64) C dL_lorry_64 rfl ?_
        refine j_iload (pc := 65) C dL_lorry_65 rfl ?_
        refine j_callQS (pc := 67) (κ := ks9 κ 0) (κ1 := ks9 κ 8) (c := 8) C rfl dL_lorry_67 ls_L_211 rfl (Nat.le_of_ble_eq_true rfl) (Nat.le_of_ble_eq_true rfl) (by decide) (ks_add rfl) (lq_le hk (by omega)) (fun l hl o ho => sp_L_breaks hl ho) (fun v10 M9 => ?_)
        refine j_if_eq (pc := 70) C dL_lorry_70 (tgt := 87) (by decide) (fun hc14 => ?_) (fun hc14 => ?_)
        · refine j_loc [1, 2, 3, 4, 5] rfl ?_
          exact t_L_lorry_b87 (κ := ks9 κ 8) C  (lq_st hk (by omega)) x0 x1 x2 x3 x4 M9
        · refine j_aload_n (pc := 73) C dL_lorry_73 rfl ?_
          refine j_iload_n (pc := 74) C dL_lorry_74 rfl ?_
          refine j_iload (pc := 75) C dL_lorry_75 rfl ?_
          refine j_callQS (pc := 77) (κ := ks9 κ 8) (κ1 := ks9 κ 16) (c := 8) C rfl dL_lorry_77 ls_L_211 rfl (Nat.le_of_ble_eq_true rfl) (Nat.le_of_ble_eq_true rfl) (by decide) (ks_add rfl) (lq_le hk (by omega)) (fun l hl o ho => sp_L_breaks hl ho) (fun v12 M11 => ?_)
          refine j_if_eq (pc := 80) C dL_lorry_80 (tgt := 87) (by decide) (fun hc13 => ?_) (fun hc13 => ?_)
          · refine j_loc [1, 2, 3, 4, 5] rfl ?_
            exact t_L_lorry_b87 (κ := ks9 κ 16) C  (lq_st hk (by omega)) x0 x1 x2 x3 x4 M11
          · refine j_iconst (pc := 83) C dL_lorry_83 (v := 1) rfl ?_
            refine j_goto (pc := 84) C dL_lorry_84 (tgt := 88) (by decide) ?_
            refine j_loc [1, 2, 3, 4, 5] rfl ?_
            exact t_L_lorry_b88 (κ := ks9 κ 16) C  (lq_st hk (by omega)) x0 x1 x2 x3 x4 (1 : Int32) M11
def f_L_lorry_b38 (z : Sh9)  (x0 : Nat) (x1 : Nat) (x2 : Int32) (x3 : Int32) (x4 : Int32) (x5 : Int32) (M : Mem9) : Re9 :=
  (f_L_lorry_b43 z  x0 x1 x2 x3 x4 x5 (1 : Int32) M)
set_option maxRecDepth 20000 in
set_option maxHeartbeats 4000000 in
theorem t_L_lorry_b38 {z : Sh9} {N : Nv9} {X : Cx9} {out : Out9 × Mem9} {κ : Ka9} (C : OK9 z N X out 11 (30, 6 * 30) cL_lorry RL 12 2 [])  (hk : lq9 κ (27) (30, 6 * 30)) (x0 : Nat) (x1 : Nat) (x2 : Int32) (x3 : Int32) (x4 : Int32) (x5 : Int32) (M : Mem9) : J9 z N X out 11 38 [(0, .ref x0), (1, .ref x1), (2, .int x2), (3, .int x3), (4, .int x4), (5, .int x5)] [] M κ (f_L_lorry_b38 z  x0 x1 x2 x3 x4 x5 M) := by
  refine j_ks0 ?_
  refine j_iconst (pc := 38) C dL_lorry_38 (v := 1) rfl ?_
  refine j_goto (pc := 39) C dL_lorry_39 (tgt := 43) (by decide) ?_
  exact t_L_lorry_b43 (κ := ks9 κ 0) C  (lq_st hk (by omega)) x0 x1 x2 x3 x4 x5 (1 : Int32) M
def f_L_lorry_b0 (z : Sh9)  (x0 : Nat) (x1 : Nat) (x2 : Int32) (x3 : Int32) (M : Mem9) : Re9 :=
  (bi9 (f_L_call z x0 (3 : Int32) x2 (0 : Int32) (0 : Int32) M) fun v2 M1 => (bi9 (f_L_call z x0 (16 : Int32) x2 (0 : Int32) (0 : Int32) M1) fun v4 M3 => (if v4 = (-1 : Int32) then (f_L_lorry_b38 z  x0 x1 x2 x3 v2 v4 M3) else (bi9 (f_L_call z x0 (3 : Int32) x2 (5 : Int32) (0 : Int32) M3) fun v6 M5 => (if v6 = 0 then (f_L_lorry_b38 z  x0 x1 x2 x3 v2 v4 M5) else (f_L_lorry_b43 z  x0 x1 x2 x3 v2 v4 (0 : Int32) M5))))))
set_option maxRecDepth 20000 in
set_option maxHeartbeats 4000000 in
theorem t_L_lorry_b0 {z : Sh9} {N : Nv9} {X : Cx9} {out : Out9 × Mem9} {κ : Ka9} (C : OK9 z N X out 11 (30, 6 * 30) cL_lorry RL 12 2 [])  (hk : lq9 κ (30) (30, 6 * 30)) (x0 : Nat) (x1 : Nat) (x2 : Int32) (x3 : Int32) (M : Mem9) : J9 z N X out 11 0 [(0, .ref x0), (1, .ref x1), (2, .int x2), (3, .int x3)] [] M κ (f_L_lorry_b0 z  x0 x1 x2 x3 M) := by
  refine j_ks0 ?_
  refine j_aload_n (pc := 0) C dL_lorry_0 rfl ?_
  refine j_iconst (pc := 1) C dL_lorry_1 (v := 3) rfl ?_
  refine j_iload_n (pc := 2) C dL_lorry_2 rfl ?_
  refine j_iconst (pc := 3) C dL_lorry_3 (v := 0) rfl ?_
  refine j_iconst (pc := 4) C dL_lorry_4 (v := 0) rfl ?_
  refine j_callQS (pc := 5) (κ := ks9 κ 0) (κ1 := ks9 κ 1) (c := 1) C rfl dL_lorry_5 ls_L_160 rfl (Nat.le_of_ble_eq_true rfl) (Nat.le_of_ble_eq_true rfl) (by decide) (ks_add rfl) (lq_le hk (by omega)) (fun l hl o ho => sp_L_call hl ho) (fun v2 M1 => ?_)
  refine j_istore (pc := 8) C dL_lorry_8 (Nat.le_of_ble_eq_true rfl) (ls' := [(4, .int v2), (0, .ref x0), (1, .ref x1), (2, .int x2), (3, .int x3)]) rfl ?_
  refine j_aload_n (pc := 10) C dL_lorry_10 rfl ?_
  refine j_bipush (pc := 11) C dL_lorry_11 (v := 16) rfl ?_
  refine j_iload_n (pc := 13) C dL_lorry_13 rfl ?_
  refine j_iconst (pc := 14) C dL_lorry_14 (v := 0) rfl ?_
  refine j_iconst (pc := 15) C dL_lorry_15 (v := 0) rfl ?_
  refine j_callQS (pc := 16) (κ := ks9 κ 1) (κ1 := ks9 κ 2) (c := 1) C rfl dL_lorry_16 ls_L_160 rfl (Nat.le_of_ble_eq_true rfl) (Nat.le_of_ble_eq_true rfl) (by decide) (ks_add rfl) (lq_le hk (by omega)) (fun l hl o ho => sp_L_call hl ho) (fun v4 M3 => ?_)
  refine j_istore (pc := 19) C dL_lorry_19 (Nat.le_of_ble_eq_true rfl) (ls' := [(5, .int v4), (4, .int v2), (0, .ref x0), (1, .ref x1), (2, .int x2), (3, .int x3)]) rfl ?_
  refine j_iload (pc := 21) C dL_lorry_21 rfl ?_
  refine j_iconst (pc := 23) C dL_lorry_23 (v := -1) rfl ?_
  refine j_icmp_eq (pc := 24) C dL_lorry_24 (tgt := 38) (by decide) (fun hc8 => ?_) (fun hc8 => ?_)
  · refine j_loc [2, 3, 4, 5, 1, 0] rfl ?_
    exact t_L_lorry_b38 (κ := ks9 κ 2) C  (lq_st hk (by omega)) x0 x1 x2 x3 v2 v4 M3
  · refine j_aload_n (pc := 27) C dL_lorry_27 rfl ?_
    refine j_iconst (pc := 28) C dL_lorry_28 (v := 3) rfl ?_
    refine j_iload_n (pc := 29) C dL_lorry_29 rfl ?_
    refine j_iconst (pc := 30) C dL_lorry_30 (v := 5) rfl ?_
    refine j_iconst (pc := 31) C dL_lorry_31 (v := 0) rfl ?_
    refine j_callQS (pc := 32) (κ := ks9 κ 2) (κ1 := ks9 κ 3) (c := 1) C rfl dL_lorry_32 ls_L_160 rfl (Nat.le_of_ble_eq_true rfl) (Nat.le_of_ble_eq_true rfl) (by decide) (ks_add rfl) (lq_le hk (by omega)) (fun l hl o ho => sp_L_call hl ho) (fun v6 M5 => ?_)
    refine j_if_ne (pc := 35) C dL_lorry_35 (tgt := 42) (by decide) (fun hc7 => ?_) (fun hc7 => ?_)
    · refine j_iconst (pc := 42) C dL_lorry_42 (v := 0) rfl ?_
      refine j_loc [2, 3, 4, 5, 1, 0] rfl ?_
      exact t_L_lorry_b43 (κ := ks9 κ 3) C  (lq_st hk (by omega)) x0 x1 x2 x3 v2 v4 (0 : Int32) M5
    · refine j_loc [2, 3, 4, 5, 1, 0] rfl ?_
      exact t_L_lorry_b38 (κ := ks9 κ 3) C  (lq_st hk (by omega)) x0 x1 x2 x3 v2 v4 M5
def f_L_lorry (z : Sh9) (a0 : Nat) (a1 : Nat) (a2 : Int32) (a3 : Int32) (M : Mem9) : Re9 := f_L_lorry_b0 z a0 a1 a2 a3 M
theorem sp_L_lorry {l : Launch} {z : Sh9} {N : Nv9} {a0 : Nat} {a1 : Nat} {a2 : Int32} {a3 : Int32} {M : Mem9} {o : Out9 × Mem9} (hl : l.stackTraces = false) (h : f_L_lorry z a0 a1 a2 a3 M = some o) : Sp9 l z N yL_lorry (Cond.code yL_lorry cL_lorry 11 (some .boolean)) 12 [.ref a0, .ref a1, .int a2, .int a3] M (30, 6 * 30) o :=
  sp9_ofQ (rk := 2) (own := RL) (c9 := 30) (by decide +kernel) rfl (Or.inr (Or.inr (Or.inl ⟨rfl, rfl⟩))) hl (Nat.le_of_ble_eq_true rfl) (fun X C => t_L_lorry_b0 (κ := (0, 0)) C ⟨Nat.le_of_eq (Nat.zero_add _), Nat.le_of_eq (Nat.zero_add _)⟩ a0 a1 a2 a3 M) h
def f_L_refuses_b77 (z : Sh9)  (x0 : Nat) (x1 : Int32) (x2 : Int32) (x3 : Int32) (x4 : Int32) (s0 : Int32) (s1 : Int32) (s2 : Nat) (M : Mem9) : Re9 :=
  (bi9 (f_L_call z s2 s1 s0 (0 : Int32) (0 : Int32) M) fun v18 M17 => (if v18 = (-9999002 : Int32) then ((rm9 x1 (50 : Int32)).bind fun v19 => (bi9 (f_L_call z x0 (2 : Int32) ((10 : Int32) + v19) (0 : Int32) (0 : Int32) M17) fun v21 M20 => (if v21 = (-9999002 : Int32) then (bi9 (f_L_call z x0 (3 : Int32) x2 (99 : Int32) (0 : Int32) M20) fun v23 M22 => (if v23 = (-9999001 : Int32) then ((rm9 x1 (9 : Int32)).bind fun v24 => (bi9 (f_L_call z x0 (3 : Int32) (0 : Int32) ((8 : Int32) + v24) (0 : Int32) M22) fun v26 M25 => (if v26 = (-9999002 : Int32) then (bi9 (f_L_call z x0 (4 : Int32) x2 (0 : Int32) (0 : Int32) M25) fun v28 M27 => (if v28 = (-9999001 : Int32) then (bi9 (f_L_call z x0 (4 : Int32) (0 : Int32) x3 (9 : Int32) M27) fun v30 M29 => (if v30 = (-9999001 : Int32) then (bi9 (f_L_call z x0 (5 : Int32) x2 (0 : Int32) (0 : Int32) M29) fun v32 M31 => (if v32 = (-9999001 : Int32) then ((rm9 x1 (9 : Int32)).bind fun v33 => (bi9 (f_L_call z x0 (6 : Int32) ((3 : Int32) + v33) (0 : Int32) (0 : Int32) M31) fun v35 M34 => (if v35 = (-9999002 : Int32) then (bi9 (f_L_comes z x0 x2 x4 (1 : Int32) (1 : Int32) M34) fun v37 M36 => (if v37 = (-9999001 : Int32) then (bi9 (f_L_comes z x0 (0 : Int32) x4 (1 : Int32) (1 : Int32) M36) fun v39 M38 => (if v39 = (-9999002 : Int32) then (bi9 (f_L_loops z x0 x2 (1 : Int32) M38) fun v41 M40 => (if v41 = (-9999001 : Int32) then (bi9 (f_L_call z x0 (8 : Int32) x2 (0 : Int32) (0 : Int32) M40) fun v43 M42 => (if v43 = (-9999001 : Int32) then ((rm9 x1 (9 : Int32)).bind fun v44 => (bi9 (f_L_call z x0 (9 : Int32) ((61 : Int32) + v44) (0 : Int32) (0 : Int32) M42) fun v46 M45 => (if v46 = (-9999002 : Int32) then ((rm9 x1 (3 : Int32)).bind fun v47 => ((rm9 x1 (9 : Int32)).bind fun v48 => (bi9 (f_L_call z x0 (10 : Int32) v47 ((61 : Int32) + v48) (0 : Int32) M45) fun v50 M49 => (if v50 = (-9999002 : Int32) then ((rm9 x1 (3 : Int32)).bind fun v51 => ((rm9 x1 (9 : Int32)).bind fun v52 => (bi9 (f_L_call z x0 (10 : Int32) v51 ((-1 : Int32) - v52) (0 : Int32) M49) fun v54 M53 => (if v54 = (-9999002 : Int32) then ((rm9 x1 (2 : Int32)).bind fun v55 => (bi9 (f_L_call z x0 (10 : Int32) v55 (0 : Int32) (0 : Int32) M53) fun v57 M56 => (if v57 = (-9999002 : Int32) then ((rm9 x1 (9 : Int32)).bind fun v58 => (bi9 (f_L_call z x0 (10 : Int32) ((3 : Int32) + v58) (5 : Int32) (0 : Int32) M56) fun v60 M59 => (if v60 = (-9999002 : Int32) then (bi9 (f_L_call z x0 (12 : Int32) x2 (0 : Int32) (0 : Int32) M59) fun v62 M61 => (if v62 = (-9999001 : Int32) then (bi9 (f_L_call z x0 (13 : Int32) (0 : Int32) x3 (0 : Int32) M61) fun v64 M63 => (if v64 = (-9999001 : Int32) then (bi9 (f_L_call z x0 (14 : Int32) x4 (0 : Int32) (0 : Int32) M63) fun v66 M65 => (if v66 = (-9999002 : Int32) then ((rm9 x1 (9 : Int32)).bind fun v67 => (bi9 (f_L_call z x0 (15 : Int32) ((401 : Int32) + v67) (0 : Int32) (0 : Int32) M65) fun v69 M68 => (if v69 = (-9999002 : Int32) then ((rm9 x1 (9 : Int32)).bind fun v70 => (bi9 (f_L_call z x0 (15 : Int32) (1 : Int32) ((5 : Int32) + v70) (0 : Int32) M68) fun v72 M71 => (if v72 = (-9999002 : Int32) then (bi9 (f_L_call z x0 (16 : Int32) x2 (0 : Int32) (0 : Int32) M71) fun v74 M73 => (if v74 = (-9999001 : Int32) then ((rm9 x1 (50 : Int32)).bind fun v75 => (bi9 (f_L_call z x0 (17 : Int32) ((2 : Int32) + v75) (0 : Int32) (0 : Int32) M73) fun v77 M76 => (if v77 = (-9999001 : Int32) then ((rm9 x1 (9 : Int32)).bind fun v78 => (bi9 (f_L_call z x0 (18 : Int32) ((-1 : Int32) - v78) (0 : Int32) (0 : Int32) M76) fun v80 M79 => (if v80 = (-9999001 : Int32) then (bi9 (f_L_doScript z x0 (0 : Int32) (0 : Int64) M79) fun v82 M81 => (if v82 = (-9999002 : Int32) then (bi9 (f_L_doScript z x0 (1 : Int32) ((100000 : Int64) + (Int32.toInt64 x1)) M81) fun v84 M83 => (if v84 = (-9999002 : Int32) then ((rm9 x1 (9 : Int32)).bind fun v85 => (bi9 (f_L_doSimulate z x0 (Int32.toInt64 x1) ((61 : Int32) + v85) M83) fun v87 M86 => (if v87 = (-9999002 : Int32) then (rz9 (1 : Int32) M86) else (rz9 (0 : Int32) M86)))) else (rz9 (0 : Int32) M83))) else (rz9 (0 : Int32) M81))) else (rz9 (0 : Int32) M79)))) else (rz9 (0 : Int32) M76)))) else (rz9 (0 : Int32) M73))) else (rz9 (0 : Int32) M71)))) else (rz9 (0 : Int32) M68)))) else (rz9 (0 : Int32) M65))) else (rz9 (0 : Int32) M63))) else (rz9 (0 : Int32) M61))) else (rz9 (0 : Int32) M59)))) else (rz9 (0 : Int32) M56)))) else (rz9 (0 : Int32) M53))))) else (rz9 (0 : Int32) M49))))) else (rz9 (0 : Int32) M45)))) else (rz9 (0 : Int32) M42))) else (rz9 (0 : Int32) M40))) else (rz9 (0 : Int32) M38))) else (rz9 (0 : Int32) M36))) else (rz9 (0 : Int32) M34)))) else (rz9 (0 : Int32) M31))) else (rz9 (0 : Int32) M29))) else (rz9 (0 : Int32) M27))) else (rz9 (0 : Int32) M25)))) else (rz9 (0 : Int32) M22))) else (rz9 (0 : Int32) M20)))) else (rz9 (0 : Int32) M17)))
set_option maxRecDepth 20000 in
set_option maxHeartbeats 4000000 in
theorem t_L_refuses_b77 {z : Sh9} {N : Nv9} {X : Cx9} {out : Out9 × Mem9} {κ : Ka9} (C : OK9 z N X out 5 (30, 6 * 30) cL_refuses RL 11 2 [])  (hk : lq9 κ (28) (30, 6 * 30)) (x0 : Nat) (x1 : Int32) (x2 : Int32) (x3 : Int32) (x4 : Int32) (s0 : Int32) (s1 : Int32) (s2 : Nat) (M : Mem9) : J9 z N X out 5 77 [(0, .ref x0), (1, .int x1), (2, .int x2), (3, .int x3), (4, .int x4)] [.int s0, .int s1, .ref s2] M κ (f_L_refuses_b77 z  x0 x1 x2 x3 x4 s0 s1 s2 M) := by
  refine j_ks0 ?_
  refine j_iconst (pc := 77) C dL_refuses_77 (v := 0) rfl ?_
  refine j_iconst (pc := 78) C dL_refuses_78 (v := 0) rfl ?_
  refine j_callQS (pc := 79) (κ := ks9 κ 0) (κ1 := ks9 κ 1) (c := 1) C rfl dL_refuses_79 ls_L_160 rfl (Nat.le_of_ble_eq_true rfl) (Nat.le_of_ble_eq_true rfl) (by decide) (ks_add rfl) (lq_le hk (by omega)) (fun l hl o ho => sp_L_call hl ho) (fun v18 M17 => ?_)
  refine j_ldc (pc := 82) C dL_refuses_82 (v := -9999002) w9_274 ?_
  refine j_icmp_ne (pc := 84) C dL_refuses_84 (tgt := 533) (by decide) (fun hc115 => ?_) (fun hc115 => ?_)
  · refine j_iconst (pc := 533) C dL_refuses_533 (v := 0) rfl ?_
    exact j_zreturn (pc := 534) C rfl dL_refuses_534 (lq_end hk (by omega))
  · refine j_aload_n (pc := 87) C dL_refuses_87 rfl ?_
    refine j_iconst (pc := 88) C dL_refuses_88 (v := 2) rfl ?_
    refine j_bipush (pc := 89) C dL_refuses_89 (v := 10) rfl ?_
    refine j_iload_n (pc := 91) C dL_refuses_91 rfl ?_
    refine j_bipush (pc := 92) C dL_refuses_92 (v := 50) rfl ?_
    refine j_irem (pc := 94) C dL_refuses_94 (fun v19 => ?_)
    refine j_iadd (pc := 95) C dL_refuses_95 ?_
    refine j_iconst (pc := 96) C dL_refuses_96 (v := 0) rfl ?_
    refine j_iconst (pc := 97) C dL_refuses_97 (v := 0) rfl ?_
    refine j_callQS (pc := 98) (κ := ks9 κ 1) (κ1 := ks9 κ 2) (c := 1) C rfl dL_refuses_98 ls_L_160 rfl (Nat.le_of_ble_eq_true rfl) (Nat.le_of_ble_eq_true rfl) (by decide) (ks_add rfl) (lq_le hk (by omega)) (fun l hl o ho => sp_L_call hl ho) (fun v21 M20 => ?_)
    refine j_ldc (pc := 101) C dL_refuses_101 (v := -9999002) w9_274 ?_
    refine j_icmp_ne (pc := 103) C dL_refuses_103 (tgt := 533) (by decide) (fun hc114 => ?_) (fun hc114 => ?_)
    · refine j_iconst (pc := 533) C dL_refuses_533 (v := 0) rfl ?_
      exact j_zreturn (pc := 534) C rfl dL_refuses_534 (lq_end hk (by omega))
    · refine j_aload_n (pc := 106) C dL_refuses_106 rfl ?_
      refine j_iconst (pc := 107) C dL_refuses_107 (v := 3) rfl ?_
      refine j_iload_n (pc := 108) C dL_refuses_108 rfl ?_
      refine j_bipush (pc := 109) C dL_refuses_109 (v := 99) rfl ?_
      refine j_iconst (pc := 111) C dL_refuses_111 (v := 0) rfl ?_
      refine j_callQS (pc := 112) (κ := ks9 κ 2) (κ1 := ks9 κ 3) (c := 1) C rfl dL_refuses_112 ls_L_160 rfl (Nat.le_of_ble_eq_true rfl) (Nat.le_of_ble_eq_true rfl) (by decide) (ks_add rfl) (lq_le hk (by omega)) (fun l hl o ho => sp_L_call hl ho) (fun v23 M22 => ?_)
      refine j_ldc (pc := 115) C dL_refuses_115 (v := -9999001) w9_489 ?_
      refine j_icmp_ne (pc := 117) C dL_refuses_117 (tgt := 533) (by decide) (fun hc113 => ?_) (fun hc113 => ?_)
      · refine j_iconst (pc := 533) C dL_refuses_533 (v := 0) rfl ?_
        exact j_zreturn (pc := 534) C rfl dL_refuses_534 (lq_end hk (by omega))
      · refine j_aload_n (pc := 120) C dL_refuses_120 rfl ?_
        refine j_iconst (pc := 121) C dL_refuses_121 (v := 3) rfl ?_
        refine j_iconst (pc := 122) C dL_refuses_122 (v := 0) rfl ?_
        refine j_bipush (pc := 123) C dL_refuses_123 (v := 8) rfl ?_
        refine j_iload_n (pc := 125) C dL_refuses_125 rfl ?_
        refine j_bipush (pc := 126) C dL_refuses_126 (v := 9) rfl ?_
        refine j_irem (pc := 128) C dL_refuses_128 (fun v24 => ?_)
        refine j_iadd (pc := 129) C dL_refuses_129 ?_
        refine j_iconst (pc := 130) C dL_refuses_130 (v := 0) rfl ?_
        refine j_callQS (pc := 131) (κ := ks9 κ 3) (κ1 := ks9 κ 4) (c := 1) C rfl dL_refuses_131 ls_L_160 rfl (Nat.le_of_ble_eq_true rfl) (Nat.le_of_ble_eq_true rfl) (by decide) (ks_add rfl) (lq_le hk (by omega)) (fun l hl o ho => sp_L_call hl ho) (fun v26 M25 => ?_)
        refine j_ldc (pc := 134) C dL_refuses_134 (v := -9999002) w9_274 ?_
        refine j_icmp_ne (pc := 136) C dL_refuses_136 (tgt := 533) (by decide) (fun hc112 => ?_) (fun hc112 => ?_)
        · refine j_iconst (pc := 533) C dL_refuses_533 (v := 0) rfl ?_
          exact j_zreturn (pc := 534) C rfl dL_refuses_534 (lq_end hk (by omega))
        · refine j_aload_n (pc := 139) C dL_refuses_139 rfl ?_
          refine j_iconst (pc := 140) C dL_refuses_140 (v := 4) rfl ?_
          refine j_iload_n (pc := 141) C dL_refuses_141 rfl ?_
          refine j_iconst (pc := 142) C dL_refuses_142 (v := 0) rfl ?_
          refine j_iconst (pc := 143) C dL_refuses_143 (v := 0) rfl ?_
          refine j_callQS (pc := 144) (κ := ks9 κ 4) (κ1 := ks9 κ 5) (c := 1) C rfl dL_refuses_144 ls_L_160 rfl (Nat.le_of_ble_eq_true rfl) (Nat.le_of_ble_eq_true rfl) (by decide) (ks_add rfl) (lq_le hk (by omega)) (fun l hl o ho => sp_L_call hl ho) (fun v28 M27 => ?_)
          refine j_ldc (pc := 147) C dL_refuses_147 (v := -9999001) w9_489 ?_
          refine j_icmp_ne (pc := 149) C dL_refuses_149 (tgt := 533) (by decide) (fun hc111 => ?_) (fun hc111 => ?_)
          · refine j_iconst (pc := 533) C dL_refuses_533 (v := 0) rfl ?_
            exact j_zreturn (pc := 534) C rfl dL_refuses_534 (lq_end hk (by omega))
          · refine j_aload_n (pc := 152) C dL_refuses_152 rfl ?_
            refine j_iconst (pc := 153) C dL_refuses_153 (v := 4) rfl ?_
            refine j_iconst (pc := 154) C dL_refuses_154 (v := 0) rfl ?_
            refine j_iload_n (pc := 155) C dL_refuses_155 rfl ?_
            refine j_bipush (pc := 156) C dL_refuses_156 (v := 9) rfl ?_
            refine j_callQS (pc := 158) (κ := ks9 κ 5) (κ1 := ks9 κ 6) (c := 1) C rfl dL_refuses_158 ls_L_160 rfl (Nat.le_of_ble_eq_true rfl) (Nat.le_of_ble_eq_true rfl) (by decide) (ks_add rfl) (lq_le hk (by omega)) (fun l hl o ho => sp_L_call hl ho) (fun v30 M29 => ?_)
            refine j_ldc (pc := 161) C dL_refuses_161 (v := -9999001) w9_489 ?_
            refine j_icmp_ne (pc := 163) C dL_refuses_163 (tgt := 533) (by decide) (fun hc110 => ?_) (fun hc110 => ?_)
            · refine j_iconst (pc := 533) C dL_refuses_533 (v := 0) rfl ?_
              exact j_zreturn (pc := 534) C rfl dL_refuses_534 (lq_end hk (by omega))
            · refine j_aload_n (pc := 166) C dL_refuses_166 rfl ?_
              refine j_iconst (pc := 167) C dL_refuses_167 (v := 5) rfl ?_
              refine j_iload_n (pc := 168) C dL_refuses_168 rfl ?_
              refine j_iconst (pc := 169) C dL_refuses_169 (v := 0) rfl ?_
              refine j_iconst (pc := 170) C dL_refuses_170 (v := 0) rfl ?_
              refine j_callQS (pc := 171) (κ := ks9 κ 6) (κ1 := ks9 κ 7) (c := 1) C rfl dL_refuses_171 ls_L_160 rfl (Nat.le_of_ble_eq_true rfl) (Nat.le_of_ble_eq_true rfl) (by decide) (ks_add rfl) (lq_le hk (by omega)) (fun l hl o ho => sp_L_call hl ho) (fun v32 M31 => ?_)
              refine j_ldc (pc := 174) C dL_refuses_174 (v := -9999001) w9_489 ?_
              refine j_icmp_ne (pc := 176) C dL_refuses_176 (tgt := 533) (by decide) (fun hc109 => ?_) (fun hc109 => ?_)
              · refine j_iconst (pc := 533) C dL_refuses_533 (v := 0) rfl ?_
                exact j_zreturn (pc := 534) C rfl dL_refuses_534 (lq_end hk (by omega))
              · refine j_aload_n (pc := 179) C dL_refuses_179 rfl ?_
                refine j_bipush (pc := 180) C dL_refuses_180 (v := 6) rfl ?_
                refine j_iconst (pc := 182) C dL_refuses_182 (v := 3) rfl ?_
                refine j_iload_n (pc := 183) C dL_refuses_183 rfl ?_
                refine j_bipush (pc := 184) C dL_refuses_184 (v := 9) rfl ?_
                refine j_irem (pc := 186) C dL_refuses_186 (fun v33 => ?_)
                refine j_iadd (pc := 187) C dL_refuses_187 ?_
                refine j_iconst (pc := 188) C dL_refuses_188 (v := 0) rfl ?_
                refine j_iconst (pc := 189) C dL_refuses_189 (v := 0) rfl ?_
                refine j_callQS (pc := 190) (κ := ks9 κ 7) (κ1 := ks9 κ 8) (c := 1) C rfl dL_refuses_190 ls_L_160 rfl (Nat.le_of_ble_eq_true rfl) (Nat.le_of_ble_eq_true rfl) (by decide) (ks_add rfl) (lq_le hk (by omega)) (fun l hl o ho => sp_L_call hl ho) (fun v35 M34 => ?_)
                refine j_ldc (pc := 193) C dL_refuses_193 (v := -9999002) w9_274 ?_
                refine j_icmp_ne (pc := 195) C dL_refuses_195 (tgt := 533) (by decide) (fun hc108 => ?_) (fun hc108 => ?_)
                · refine j_iconst (pc := 533) C dL_refuses_533 (v := 0) rfl ?_
                  exact j_zreturn (pc := 534) C rfl dL_refuses_534 (lq_end hk (by omega))
                · refine j_aload_n (pc := 198) C dL_refuses_198 rfl ?_
                  refine j_iload_n (pc := 199) C dL_refuses_199 rfl ?_
                  refine j_iload (pc := 200) C dL_refuses_200 rfl ?_
                  refine j_iconst (pc := 202) C dL_refuses_202 (v := 1) rfl ?_
                  refine j_iconst (pc := 203) C dL_refuses_203 (v := 1) rfl ?_
                  refine j_callQW (pc := 204) (κ := ks9 κ 8) (κ1 := ks9 κ 9) (c := 1) C rfl dL_refuses_204 lw_L_164 rfl (Nat.le_of_ble_eq_true rfl) (Nat.le_of_ble_eq_true rfl) (by decide) (ks_add rfl) (lq_le hk (by omega)) (fun l hl o ho => sp_L_comes hl ho) (fun v37 M36 => ?_)
                  refine j_ldc (pc := 207) C dL_refuses_207 (v := -9999001) w9_489 ?_
                  refine j_icmp_ne (pc := 209) C dL_refuses_209 (tgt := 533) (by decide) (fun hc107 => ?_) (fun hc107 => ?_)
                  · refine j_iconst (pc := 533) C dL_refuses_533 (v := 0) rfl ?_
                    exact j_zreturn (pc := 534) C rfl dL_refuses_534 (lq_end hk (by omega))
                  · refine j_aload_n (pc := 212) C dL_refuses_212 rfl ?_
                    refine j_iconst (pc := 213) C dL_refuses_213 (v := 0) rfl ?_
                    refine j_iload (pc := 214) C dL_refuses_214 rfl ?_
                    refine j_iconst (pc := 216) C dL_refuses_216 (v := 1) rfl ?_
                    refine j_iconst (pc := 217) C dL_refuses_217 (v := 1) rfl ?_
                    refine j_callQW (pc := 218) (κ := ks9 κ 9) (κ1 := ks9 κ 10) (c := 1) C rfl dL_refuses_218 lw_L_164 rfl (Nat.le_of_ble_eq_true rfl) (Nat.le_of_ble_eq_true rfl) (by decide) (ks_add rfl) (lq_le hk (by omega)) (fun l hl o ho => sp_L_comes hl ho) (fun v39 M38 => ?_)
                    refine j_ldc (pc := 221) C dL_refuses_221 (v := -9999002) w9_274 ?_
                    refine j_icmp_ne (pc := 223) C dL_refuses_223 (tgt := 533) (by decide) (fun hc106 => ?_) (fun hc106 => ?_)
                    · refine j_iconst (pc := 533) C dL_refuses_533 (v := 0) rfl ?_
                      exact j_zreturn (pc := 534) C rfl dL_refuses_534 (lq_end hk (by omega))
                    · refine j_aload_n (pc := 226) C dL_refuses_226 rfl ?_
                      refine j_iload_n (pc := 227) C dL_refuses_227 rfl ?_
                      refine j_iconst (pc := 228) C dL_refuses_228 (v := 1) rfl ?_
                      refine j_callQW (pc := 229) (κ := ks9 κ 10) (κ1 := ks9 κ 11) (c := 1) C rfl dL_refuses_229 lw_L_168 rfl (Nat.le_of_ble_eq_true rfl) (Nat.le_of_ble_eq_true rfl) (by decide) (ks_add rfl) (lq_le hk (by omega)) (fun l hl o ho => sp_L_loops hl ho) (fun v41 M40 => ?_)
                      refine j_ldc (pc := 232) C dL_refuses_232 (v := -9999001) w9_489 ?_
                      refine j_icmp_ne (pc := 234) C dL_refuses_234 (tgt := 533) (by decide) (fun hc105 => ?_) (fun hc105 => ?_)
                      · refine j_iconst (pc := 533) C dL_refuses_533 (v := 0) rfl ?_
                        exact j_zreturn (pc := 534) C rfl dL_refuses_534 (lq_end hk (by omega))
                      · refine j_aload_n (pc := 237) C dL_refuses_237 rfl ?_
                        refine j_bipush (pc := 238) C dL_refuses_238 (v := 8) rfl ?_
                        refine j_iload_n (pc := 240) C dL_refuses_240 rfl ?_
                        refine j_iconst (pc := 241) C dL_refuses_241 (v := 0) rfl ?_
                        refine j_iconst (pc := 242) C dL_refuses_242 (v := 0) rfl ?_
                        refine j_callQS (pc := 243) (κ := ks9 κ 11) (κ1 := ks9 κ 12) (c := 1) C rfl dL_refuses_243 ls_L_160 rfl (Nat.le_of_ble_eq_true rfl) (Nat.le_of_ble_eq_true rfl) (by decide) (ks_add rfl) (lq_le hk (by omega)) (fun l hl o ho => sp_L_call hl ho) (fun v43 M42 => ?_)
                        refine j_ldc (pc := 246) C dL_refuses_246 (v := -9999001) w9_489 ?_
                        refine j_icmp_ne (pc := 248) C dL_refuses_248 (tgt := 533) (by decide) (fun hc104 => ?_) (fun hc104 => ?_)
                        · refine j_iconst (pc := 533) C dL_refuses_533 (v := 0) rfl ?_
                          exact j_zreturn (pc := 534) C rfl dL_refuses_534 (lq_end hk (by omega))
                        · refine j_aload_n (pc := 251) C dL_refuses_251 rfl ?_
                          refine j_bipush (pc := 252) C dL_refuses_252 (v := 9) rfl ?_
                          refine j_bipush (pc := 254) C dL_refuses_254 (v := 61) rfl ?_
                          refine j_iload_n (pc := 256) C dL_refuses_256 rfl ?_
                          refine j_bipush (pc := 257) C dL_refuses_257 (v := 9) rfl ?_
                          refine j_irem (pc := 259) C dL_refuses_259 (fun v44 => ?_)
                          refine j_iadd (pc := 260) C dL_refuses_260 ?_
                          refine j_iconst (pc := 261) C dL_refuses_261 (v := 0) rfl ?_
                          refine j_iconst (pc := 262) C dL_refuses_262 (v := 0) rfl ?_
                          refine j_callQS (pc := 263) (κ := ks9 κ 12) (κ1 := ks9 κ 13) (c := 1) C rfl dL_refuses_263 ls_L_160 rfl (Nat.le_of_ble_eq_true rfl) (Nat.le_of_ble_eq_true rfl) (by decide) (ks_add rfl) (lq_le hk (by omega)) (fun l hl o ho => sp_L_call hl ho) (fun v46 M45 => ?_)
                          refine j_ldc (pc := 266) C dL_refuses_266 (v := -9999002) w9_274 ?_
                          refine j_icmp_ne (pc := 268) C dL_refuses_268 (tgt := 533) (by decide) (fun hc103 => ?_) (fun hc103 => ?_)
                          · refine j_iconst (pc := 533) C dL_refuses_533 (v := 0) rfl ?_
                            exact j_zreturn (pc := 534) C rfl dL_refuses_534 (lq_end hk (by omega))
                          · refine j_aload_n (pc := 271) C dL_refuses_271 rfl ?_
                            refine j_bipush (pc := 272) C dL_refuses_272 (v := 10) rfl ?_
                            refine j_iload_n (pc := 274) C dL_refuses_274 rfl ?_
                            refine j_iconst (pc := 275) C dL_refuses_275 (v := 3) rfl ?_
                            refine j_irem (pc := 276) C dL_refuses_276 (fun v47 => ?_)
                            refine j_bipush (pc := 277) C dL_refuses_277 (v := 61) rfl ?_
                            refine j_iload_n (pc := 279) C dL_refuses_279 rfl ?_
                            refine j_bipush (pc := 280) C dL_refuses_280 (v := 9) rfl ?_
                            refine j_irem (pc := 282) C dL_refuses_282 (fun v48 => ?_)
                            refine j_iadd (pc := 283) C dL_refuses_283 ?_
                            refine j_iconst (pc := 284) C dL_refuses_284 (v := 0) rfl ?_
                            refine j_callQS (pc := 285) (κ := ks9 κ 13) (κ1 := ks9 κ 14) (c := 1) C rfl dL_refuses_285 ls_L_160 rfl (Nat.le_of_ble_eq_true rfl) (Nat.le_of_ble_eq_true rfl) (by decide) (ks_add rfl) (lq_le hk (by omega)) (fun l hl o ho => sp_L_call hl ho) (fun v50 M49 => ?_)
                            refine j_ldc (pc := 288) C dL_refuses_288 (v := -9999002) w9_274 ?_
                            refine j_icmp_ne (pc := 290) C dL_refuses_290 (tgt := 533) (by decide) (fun hc102 => ?_) (fun hc102 => ?_)
                            · refine j_iconst (pc := 533) C dL_refuses_533 (v := 0) rfl ?_
                              exact j_zreturn (pc := 534) C rfl dL_refuses_534 (lq_end hk (by omega))
                            · refine j_aload_n (pc := 293) C dL_refuses_293 rfl ?_
                              refine j_bipush (pc := 294) C dL_refuses_294 (v := 10) rfl ?_
                              refine j_iload_n (pc := 296) C dL_refuses_296 rfl ?_
                              refine j_iconst (pc := 297) C dL_refuses_297 (v := 3) rfl ?_
                              refine j_irem (pc := 298) C dL_refuses_298 (fun v51 => ?_)
                              refine j_iconst (pc := 299) C dL_refuses_299 (v := -1) rfl ?_
                              refine j_iload_n (pc := 300) C dL_refuses_300 rfl ?_
                              refine j_bipush (pc := 301) C dL_refuses_301 (v := 9) rfl ?_
                              refine j_irem (pc := 303) C dL_refuses_303 (fun v52 => ?_)
                              refine j_isub (pc := 304) C dL_refuses_304 ?_
                              refine j_iconst (pc := 305) C dL_refuses_305 (v := 0) rfl ?_
                              refine j_callQS (pc := 306) (κ := ks9 κ 14) (κ1 := ks9 κ 15) (c := 1) C rfl dL_refuses_306 ls_L_160 rfl (Nat.le_of_ble_eq_true rfl) (Nat.le_of_ble_eq_true rfl) (by decide) (ks_add rfl) (lq_le hk (by omega)) (fun l hl o ho => sp_L_call hl ho) (fun v54 M53 => ?_)
                              refine j_ldc (pc := 309) C dL_refuses_309 (v := -9999002) w9_274 ?_
                              refine j_icmp_ne (pc := 311) C dL_refuses_311 (tgt := 533) (by decide) (fun hc101 => ?_) (fun hc101 => ?_)
                              · refine j_iconst (pc := 533) C dL_refuses_533 (v := 0) rfl ?_
                                exact j_zreturn (pc := 534) C rfl dL_refuses_534 (lq_end hk (by omega))
                              · refine j_aload_n (pc := 314) C dL_refuses_314 rfl ?_
                                refine j_bipush (pc := 315) C dL_refuses_315 (v := 10) rfl ?_
                                refine j_iload_n (pc := 317) C dL_refuses_317 rfl ?_
                                refine j_iconst (pc := 318) C dL_refuses_318 (v := 2) rfl ?_
                                refine j_irem (pc := 319) C dL_refuses_319 (fun v55 => ?_)
                                refine j_iconst (pc := 320) C dL_refuses_320 (v := 0) rfl ?_
                                refine j_iconst (pc := 321) C dL_refuses_321 (v := 0) rfl ?_
                                refine j_callQS (pc := 322) (κ := ks9 κ 15) (κ1 := ks9 κ 16) (c := 1) C rfl dL_refuses_322 ls_L_160 rfl (Nat.le_of_ble_eq_true rfl) (Nat.le_of_ble_eq_true rfl) (by decide) (ks_add rfl) (lq_le hk (by omega)) (fun l hl o ho => sp_L_call hl ho) (fun v57 M56 => ?_)
                                refine j_ldc (pc := 325) C dL_refuses_325 (v := -9999002) w9_274 ?_
                                refine j_icmp_ne (pc := 327) C dL_refuses_327 (tgt := 533) (by decide) (fun hc100 => ?_) (fun hc100 => ?_)
                                · refine j_iconst (pc := 533) C dL_refuses_533 (v := 0) rfl ?_
                                  exact j_zreturn (pc := 534) C rfl dL_refuses_534 (lq_end hk (by omega))
                                · refine j_aload_n (pc := 330) C dL_refuses_330 rfl ?_
                                  refine j_bipush (pc := 331) C dL_refuses_331 (v := 10) rfl ?_
                                  refine j_iconst (pc := 333) C dL_refuses_333 (v := 3) rfl ?_
                                  refine j_iload_n (pc := 334) C dL_refuses_334 rfl ?_
                                  refine j_bipush (pc := 335) C dL_refuses_335 (v := 9) rfl ?_
                                  refine j_irem (pc := 337) C dL_refuses_337 (fun v58 => ?_)
                                  refine j_iadd (pc := 338) C dL_refuses_338 ?_
                                  refine j_iconst (pc := 339) C dL_refuses_339 (v := 5) rfl ?_
                                  refine j_iconst (pc := 340) C dL_refuses_340 (v := 0) rfl ?_
                                  refine j_callQS (pc := 341) (κ := ks9 κ 16) (κ1 := ks9 κ 17) (c := 1) C rfl dL_refuses_341 ls_L_160 rfl (Nat.le_of_ble_eq_true rfl) (Nat.le_of_ble_eq_true rfl) (by decide) (ks_add rfl) (lq_le hk (by omega)) (fun l hl o ho => sp_L_call hl ho) (fun v60 M59 => ?_)
                                  refine j_ldc (pc := 344) C dL_refuses_344 (v := -9999002) w9_274 ?_
                                  refine j_icmp_ne (pc := 346) C dL_refuses_346 (tgt := 533) (by decide) (fun hc99 => ?_) (fun hc99 => ?_)
                                  · refine j_iconst (pc := 533) C dL_refuses_533 (v := 0) rfl ?_
                                    exact j_zreturn (pc := 534) C rfl dL_refuses_534 (lq_end hk (by omega))
                                  · refine j_aload_n (pc := 349) C dL_refuses_349 rfl ?_
                                    refine j_bipush (pc := 350) C dL_refuses_350 (v := 12) rfl ?_
                                    refine j_iload_n (pc := 352) C dL_refuses_352 rfl ?_
                                    refine j_iconst (pc := 353) C dL_refuses_353 (v := 0) rfl ?_
                                    refine j_iconst (pc := 354) C dL_refuses_354 (v := 0) rfl ?_
                                    refine j_callQS (pc := 355) (κ := ks9 κ 17) (κ1 := ks9 κ 18) (c := 1) C rfl dL_refuses_355 ls_L_160 rfl (Nat.le_of_ble_eq_true rfl) (Nat.le_of_ble_eq_true rfl) (by decide) (ks_add rfl) (lq_le hk (by omega)) (fun l hl o ho => sp_L_call hl ho) (fun v62 M61 => ?_)
                                    refine j_ldc (pc := 358) C dL_refuses_358 (v := -9999001) w9_489 ?_
                                    refine j_icmp_ne (pc := 360) C dL_refuses_360 (tgt := 533) (by decide) (fun hc98 => ?_) (fun hc98 => ?_)
                                    · refine j_iconst (pc := 533) C dL_refuses_533 (v := 0) rfl ?_
                                      exact j_zreturn (pc := 534) C rfl dL_refuses_534 (lq_end hk (by omega))
                                    · refine j_aload_n (pc := 363) C dL_refuses_363 rfl ?_
                                      refine j_bipush (pc := 364) C dL_refuses_364 (v := 13) rfl ?_
                                      refine j_iconst (pc := 366) C dL_refuses_366 (v := 0) rfl ?_
                                      refine j_iload_n (pc := 367) C dL_refuses_367 rfl ?_
                                      refine j_iconst (pc := 368) C dL_refuses_368 (v := 0) rfl ?_
                                      refine j_callQS (pc := 369) (κ := ks9 κ 18) (κ1 := ks9 κ 19) (c := 1) C rfl dL_refuses_369 ls_L_160 rfl (Nat.le_of_ble_eq_true rfl) (Nat.le_of_ble_eq_true rfl) (by decide) (ks_add rfl) (lq_le hk (by omega)) (fun l hl o ho => sp_L_call hl ho) (fun v64 M63 => ?_)
                                      refine j_ldc (pc := 372) C dL_refuses_372 (v := -9999001) w9_489 ?_
                                      refine j_icmp_ne (pc := 374) C dL_refuses_374 (tgt := 533) (by decide) (fun hc97 => ?_) (fun hc97 => ?_)
                                      · refine j_iconst (pc := 533) C dL_refuses_533 (v := 0) rfl ?_
                                        exact j_zreturn (pc := 534) C rfl dL_refuses_534 (lq_end hk (by omega))
                                      · refine j_aload_n (pc := 377) C dL_refuses_377 rfl ?_
                                        refine j_bipush (pc := 378) C dL_refuses_378 (v := 14) rfl ?_
                                        refine j_iload (pc := 380) C dL_refuses_380 rfl ?_
                                        refine j_iconst (pc := 382) C dL_refuses_382 (v := 0) rfl ?_
                                        refine j_iconst (pc := 383) C dL_refuses_383 (v := 0) rfl ?_
                                        refine j_callQS (pc := 384) (κ := ks9 κ 19) (κ1 := ks9 κ 20) (c := 1) C rfl dL_refuses_384 ls_L_160 rfl (Nat.le_of_ble_eq_true rfl) (Nat.le_of_ble_eq_true rfl) (by decide) (ks_add rfl) (lq_le hk (by omega)) (fun l hl o ho => sp_L_call hl ho) (fun v66 M65 => ?_)
                                        refine j_ldc (pc := 387) C dL_refuses_387 (v := -9999002) w9_274 ?_
                                        refine j_icmp_ne (pc := 389) C dL_refuses_389 (tgt := 533) (by decide) (fun hc96 => ?_) (fun hc96 => ?_)
                                        · refine j_iconst (pc := 533) C dL_refuses_533 (v := 0) rfl ?_
                                          exact j_zreturn (pc := 534) C rfl dL_refuses_534 (lq_end hk (by omega))
                                        · refine j_aload_n (pc := 392) C dL_refuses_392 rfl ?_
                                          refine j_bipush (pc := 393) C dL_refuses_393 (v := 15) rfl ?_
                                          refine j_sipush (pc := 395) C dL_refuses_395 (v := 401) rfl ?_
                                          refine j_iload_n (pc := 398) C dL_refuses_398 rfl ?_
                                          refine j_bipush (pc := 399) C dL_refuses_399 (v := 9) rfl ?_
                                          refine j_irem (pc := 401) C dL_refuses_401 (fun v67 => ?_)
                                          refine j_iadd (pc := 402) C dL_refuses_402 ?_
                                          refine j_iconst (pc := 403) C dL_refuses_403 (v := 0) rfl ?_
                                          refine j_iconst (pc := 404) C dL_refuses_404 (v := 0) rfl ?_
                                          refine j_callQS (pc := 405) (κ := ks9 κ 20) (κ1 := ks9 κ 21) (c := 1) C rfl dL_refuses_405 ls_L_160 rfl (Nat.le_of_ble_eq_true rfl) (Nat.le_of_ble_eq_true rfl) (by decide) (ks_add rfl) (lq_le hk (by omega)) (fun l hl o ho => sp_L_call hl ho) (fun v69 M68 => ?_)
                                          refine j_ldc (pc := 408) C dL_refuses_408 (v := -9999002) w9_274 ?_
                                          refine j_icmp_ne (pc := 410) C dL_refuses_410 (tgt := 533) (by decide) (fun hc95 => ?_) (fun hc95 => ?_)
                                          · refine j_iconst (pc := 533) C dL_refuses_533 (v := 0) rfl ?_
                                            exact j_zreturn (pc := 534) C rfl dL_refuses_534 (lq_end hk (by omega))
                                          · refine j_aload_n (pc := 413) C dL_refuses_413 rfl ?_
                                            refine j_bipush (pc := 414) C dL_refuses_414 (v := 15) rfl ?_
                                            refine j_iconst (pc := 416) C dL_refuses_416 (v := 1) rfl ?_
                                            refine j_iconst (pc := 417) C dL_refuses_417 (v := 5) rfl ?_
                                            refine j_iload_n (pc := 418) C dL_refuses_418 rfl ?_
                                            refine j_bipush (pc := 419) C dL_refuses_419 (v := 9) rfl ?_
                                            refine j_irem (pc := 421) C dL_refuses_421 (fun v70 => ?_)
                                            refine j_iadd (pc := 422) C dL_refuses_422 ?_
                                            refine j_iconst (pc := 423) C dL_refuses_423 (v := 0) rfl ?_
                                            refine j_callQS (pc := 424) (κ := ks9 κ 21) (κ1 := ks9 κ 22) (c := 1) C rfl dL_refuses_424 ls_L_160 rfl (Nat.le_of_ble_eq_true rfl) (Nat.le_of_ble_eq_true rfl) (by decide) (ks_add rfl) (lq_le hk (by omega)) (fun l hl o ho => sp_L_call hl ho) (fun v72 M71 => ?_)
                                            refine j_ldc (pc := 427) C dL_refuses_427 (v := -9999002) w9_274 ?_
                                            refine j_icmp_ne (pc := 429) C dL_refuses_429 (tgt := 533) (by decide) (fun hc94 => ?_) (fun hc94 => ?_)
                                            · refine j_iconst (pc := 533) C dL_refuses_533 (v := 0) rfl ?_
                                              exact j_zreturn (pc := 534) C rfl dL_refuses_534 (lq_end hk (by omega))
                                            · refine j_aload_n (pc := 432) C dL_refuses_432 rfl ?_
                                              refine j_bipush (pc := 433) C dL_refuses_433 (v := 16) rfl ?_
                                              refine j_iload_n (pc := 435) C dL_refuses_435 rfl ?_
                                              refine j_iconst (pc := 436) C dL_refuses_436 (v := 0) rfl ?_
                                              refine j_iconst (pc := 437) C dL_refuses_437 (v := 0) rfl ?_
                                              refine j_callQS (pc := 438) (κ := ks9 κ 22) (κ1 := ks9 κ 23) (c := 1) C rfl dL_refuses_438 ls_L_160 rfl (Nat.le_of_ble_eq_true rfl) (Nat.le_of_ble_eq_true rfl) (by decide) (ks_add rfl) (lq_le hk (by omega)) (fun l hl o ho => sp_L_call hl ho) (fun v74 M73 => ?_)
                                              refine j_ldc (pc := 441) C dL_refuses_441 (v := -9999001) w9_489 ?_
                                              refine j_icmp_ne (pc := 443) C dL_refuses_443 (tgt := 533) (by decide) (fun hc93 => ?_) (fun hc93 => ?_)
                                              · refine j_iconst (pc := 533) C dL_refuses_533 (v := 0) rfl ?_
                                                exact j_zreturn (pc := 534) C rfl dL_refuses_534 (lq_end hk (by omega))
                                              · refine j_aload_n (pc := 446) C dL_refuses_446 rfl ?_
                                                refine j_bipush (pc := 447) C dL_refuses_447 (v := 17) rfl ?_
                                                refine j_iconst (pc := 449) C dL_refuses_449 (v := 2) rfl ?_
                                                refine j_iload_n (pc := 450) C dL_refuses_450 rfl ?_
                                                refine j_bipush (pc := 451) C dL_refuses_451 (v := 50) rfl ?_
                                                refine j_irem (pc := 453) C dL_refuses_453 (fun v75 => ?_)
                                                refine j_iadd (pc := 454) C dL_refuses_454 ?_
                                                refine j_iconst (pc := 455) C dL_refuses_455 (v := 0) rfl ?_
                                                refine j_iconst (pc := 456) C dL_refuses_456 (v := 0) rfl ?_
                                                refine j_callQS (pc := 457) (κ := ks9 κ 23) (κ1 := ks9 κ 24) (c := 1) C rfl dL_refuses_457 ls_L_160 rfl (Nat.le_of_ble_eq_true rfl) (Nat.le_of_ble_eq_true rfl) (by decide) (ks_add rfl) (lq_le hk (by omega)) (fun l hl o ho => sp_L_call hl ho) (fun v77 M76 => ?_)
                                                refine j_ldc (pc := 460) C dL_refuses_460 (v := -9999001) w9_489 ?_
                                                refine j_icmp_ne (pc := 462) C dL_refuses_462 (tgt := 533) (by decide) (fun hc92 => ?_) (fun hc92 => ?_)
                                                · refine j_iconst (pc := 533) C dL_refuses_533 (v := 0) rfl ?_
                                                  exact j_zreturn (pc := 534) C rfl dL_refuses_534 (lq_end hk (by omega))
                                                · refine j_aload_n (pc := 465) C dL_refuses_465 rfl ?_
                                                  refine j_bipush (pc := 466) C dL_refuses_466 (v := 18) rfl ?_
                                                  refine j_iconst (pc := 468) C dL_refuses_468 (v := -1) rfl ?_
                                                  refine j_iload_n (pc := 469) C dL_refuses_469 rfl ?_
                                                  refine j_bipush (pc := 470) C dL_refuses_470 (v := 9) rfl ?_
                                                  refine j_irem (pc := 472) C dL_refuses_472 (fun v78 => ?_)
                                                  refine j_isub (pc := 473) C dL_refuses_473 ?_
                                                  refine j_iconst (pc := 474) C dL_refuses_474 (v := 0) rfl ?_
                                                  refine j_iconst (pc := 475) C dL_refuses_475 (v := 0) rfl ?_
                                                  refine j_callQS (pc := 476) (κ := ks9 κ 24) (κ1 := ks9 κ 25) (c := 1) C rfl dL_refuses_476 ls_L_160 rfl (Nat.le_of_ble_eq_true rfl) (Nat.le_of_ble_eq_true rfl) (by decide) (ks_add rfl) (lq_le hk (by omega)) (fun l hl o ho => sp_L_call hl ho) (fun v80 M79 => ?_)
                                                  refine j_ldc (pc := 479) C dL_refuses_479 (v := -9999001) w9_489 ?_
                                                  refine j_icmp_ne (pc := 481) C dL_refuses_481 (tgt := 533) (by decide) (fun hc91 => ?_) (fun hc91 => ?_)
                                                  · refine j_iconst (pc := 533) C dL_refuses_533 (v := 0) rfl ?_
                                                    exact j_zreturn (pc := 534) C rfl dL_refuses_534 (lq_end hk (by omega))
                                                  · refine j_aload_n (pc := 484) C dL_refuses_484 rfl ?_
                                                    refine j_iconst (pc := 485) C dL_refuses_485 (v := 0) rfl ?_
                                                    refine j_lconst (pc := 486) C dL_refuses_486 (v := 0) rfl ?_
                                                    refine j_callQW (pc := 487) (κ := ks9 κ 25) (κ1 := ks9 κ 26) (c := 1) C rfl dL_refuses_487 lw_L_172 rfl (Nat.le_of_ble_eq_true rfl) (Nat.le_of_ble_eq_true rfl) (by decide) (ks_add rfl) (lq_le hk (by omega)) (fun l hl o ho => sp_L_doScript hl ho) (fun v82 M81 => ?_)
                                                    refine j_ldc (pc := 490) C dL_refuses_490 (v := -9999002) w9_274 ?_
                                                    refine j_icmp_ne (pc := 492) C dL_refuses_492 (tgt := 533) (by decide) (fun hc90 => ?_) (fun hc90 => ?_)
                                                    · refine j_iconst (pc := 533) C dL_refuses_533 (v := 0) rfl ?_
                                                      exact j_zreturn (pc := 534) C rfl dL_refuses_534 (lq_end hk (by omega))
                                                    · refine j_aload_n (pc := 495) C dL_refuses_495 rfl ?_
                                                      refine j_iconst (pc := 496) C dL_refuses_496 (v := 1) rfl ?_
                                                      refine j_ldc2 (pc := 497) C dL_refuses_497 (v := 100000) w9_707 ?_
                                                      refine j_iload_n (pc := 500) C dL_refuses_500 rfl ?_
                                                      refine j_i2l (pc := 501) C dL_refuses_501 ?_
                                                      refine j_ladd (pc := 502) C dL_refuses_502 ?_
                                                      refine j_callQW (pc := 503) (κ := ks9 κ 26) (κ1 := ks9 κ 27) (c := 1) C rfl dL_refuses_503 lw_L_172 rfl (Nat.le_of_ble_eq_true rfl) (Nat.le_of_ble_eq_true rfl) (by decide) (ks_add rfl) (lq_le hk (by omega)) (fun l hl o ho => sp_L_doScript hl ho) (fun v84 M83 => ?_)
                                                      refine j_ldc (pc := 506) C dL_refuses_506 (v := -9999002) w9_274 ?_
                                                      refine j_icmp_ne (pc := 508) C dL_refuses_508 (tgt := 533) (by decide) (fun hc89 => ?_) (fun hc89 => ?_)
                                                      · refine j_iconst (pc := 533) C dL_refuses_533 (v := 0) rfl ?_
                                                        exact j_zreturn (pc := 534) C rfl dL_refuses_534 (lq_end hk (by omega))
                                                      · refine j_aload_n (pc := 511) C dL_refuses_511 rfl ?_
                                                        refine j_iload_n (pc := 512) C dL_refuses_512 rfl ?_
                                                        refine j_i2l (pc := 513) C dL_refuses_513 ?_
                                                        refine j_bipush (pc := 514) C dL_refuses_514 (v := 61) rfl ?_
                                                        refine j_iload_n (pc := 516) C dL_refuses_516 rfl ?_
                                                        refine j_bipush (pc := 517) C dL_refuses_517 (v := 9) rfl ?_
                                                        refine j_irem (pc := 519) C dL_refuses_519 (fun v85 => ?_)
                                                        refine j_iadd (pc := 520) C dL_refuses_520 ?_
                                                        refine j_callQW (pc := 521) (κ := ks9 κ 27) (κ1 := ks9 κ 28) (c := 1) C rfl dL_refuses_521 lw_L_178 rfl (Nat.le_of_ble_eq_true rfl) (Nat.le_of_ble_eq_true rfl) (by decide) (ks_add rfl) (lq_le hk (by omega)) (fun l hl o ho => sp_L_doSimulate hl ho) (fun v87 M86 => ?_)
                                                        refine j_ldc (pc := 524) C dL_refuses_524 (v := -9999002) w9_274 ?_
                                                        refine j_icmp_ne (pc := 526) C dL_refuses_526 (tgt := 533) (by decide) (fun hc88 => ?_) (fun hc88 => ?_)
                                                        · refine j_iconst (pc := 533) C dL_refuses_533 (v := 0) rfl ?_
                                                          exact j_zreturn (pc := 534) C rfl dL_refuses_534 (lq_end hk (by omega))
                                                        · refine j_iconst (pc := 529) C dL_refuses_529 (v := 1) rfl ?_
                                                          refine j_goto (pc := 530) C dL_refuses_530 (tgt := 534) (by decide) ?_
                                                          exact j_zreturn (pc := 534) C rfl dL_refuses_534 (lq_end hk (by omega))
def f_L_refuses_b50 (z : Sh9)  (x0 : Nat) (x1 : Int32) (x2 : Int32) (x3 : Int32) (s0 : Int32) (M : Mem9) : Re9 :=
  ((rm9 x1 (2 : Int32)).bind fun v13 => (if v13 = 0 then ((rm9 x1 (9 : Int32)).bind fun v15 => (f_L_refuses_b77 z  x0 x1 x2 x3 s0 ((-1 : Int32) - v15) (0 : Int32) x0 M)) else ((rm9 x1 (9 : Int32)).bind fun v14 => (f_L_refuses_b77 z  x0 x1 x2 x3 s0 ((256 : Int32) + v14) (0 : Int32) x0 M))))
set_option maxRecDepth 20000 in
set_option maxHeartbeats 4000000 in
theorem t_L_refuses_b50 {z : Sh9} {N : Nv9} {X : Cx9} {out : Out9 × Mem9} {κ : Ka9} (C : OK9 z N X out 5 (30, 6 * 30) cL_refuses RL 11 2 [])  (hk : lq9 κ (28) (30, 6 * 30)) (x0 : Nat) (x1 : Int32) (x2 : Int32) (x3 : Int32) (s0 : Int32) (M : Mem9) : J9 z N X out 5 50 [(0, .ref x0), (1, .int x1), (2, .int x2), (3, .int x3)] [.int s0] M κ (f_L_refuses_b50 z  x0 x1 x2 x3 s0 M) := by
  refine j_ks0 ?_
  refine j_istore (pc := 50) C dL_refuses_50 (Nat.le_of_ble_eq_true rfl) (ls' := [(4, .int s0), (0, .ref x0), (1, .int x1), (2, .int x2), (3, .int x3)]) rfl ?_
  refine j_aload_n (pc := 52) C dL_refuses_52 rfl ?_
  refine j_iconst (pc := 53) C dL_refuses_53 (v := 0) rfl ?_
  refine j_iload_n (pc := 54) C dL_refuses_54 rfl ?_
  refine j_iconst (pc := 55) C dL_refuses_55 (v := 2) rfl ?_
  refine j_irem (pc := 56) C dL_refuses_56 (fun v13 => ?_)
  refine j_if_ne (pc := 57) C dL_refuses_57 (tgt := 69) (by decide) (fun hc16 => ?_) (fun hc16 => ?_)
  · refine j_sipush (pc := 69) C dL_refuses_69 (v := 256) rfl ?_
    refine j_iload_n (pc := 72) C dL_refuses_72 rfl ?_
    refine j_bipush (pc := 73) C dL_refuses_73 (v := 9) rfl ?_
    refine j_irem (pc := 75) C dL_refuses_75 (fun v14 => ?_)
    refine j_iadd (pc := 76) C dL_refuses_76 ?_
    refine j_loc [1, 2, 3, 4, 0] rfl ?_
    exact t_L_refuses_b77 (κ := ks9 κ 0) C  (lq_st hk (by omega)) x0 x1 x2 x3 s0 ((256 : Int32) + v14) (0 : Int32) x0 M
  · refine j_iconst (pc := 60) C dL_refuses_60 (v := -1) rfl ?_
    refine j_iload_n (pc := 61) C dL_refuses_61 rfl ?_
    refine j_bipush (pc := 62) C dL_refuses_62 (v := 9) rfl ?_
    refine j_irem (pc := 64) C dL_refuses_64 (fun v15 => ?_)
    refine j_isub (pc := 65) C dL_refuses_65 ?_
    refine j_goto (pc := 66) C dL_refuses_66 (tgt := 77) (by decide) ?_
    refine j_loc [1, 2, 3, 4, 0] rfl ?_
    exact t_L_refuses_b77 (κ := ks9 κ 0) C  (lq_st hk (by omega)) x0 x1 x2 x3 s0 ((-1 : Int32) - v15) (0 : Int32) x0 M
def f_L_refuses_b0 (z : Sh9)  (x0 : Nat) (x1 : Int32) (M : Mem9) : Re9 :=
  (bi9 (f_L_call z x0 (2 : Int32) (0 : Int32) (0 : Int32) (0 : Int32) M) fun v2 M1 => ((rm9 x1 (50 : Int32)).bind fun v3 => (nm9 (v2 + v3) fun (y4 : Int32) => (bi9 (f_L_call z x0 (3 : Int32) (0 : Int32) (0 : Int32) (0 : Int32) M1) fun v6 M5 => ((rm9 x1 (50 : Int32)).bind fun v7 => (nm9 (v6 + v7) fun (y8 : Int32) => ((rm9 x1 (2 : Int32)).bind fun v9 => (if v9 = 0 then ((rm9 x1 (99 : Int32)).bind fun v11 => (f_L_refuses_b50 z  x0 x1 y4 y8 ((1 : Int32) - v11) M5)) else ((rm9 x1 (99 : Int32)).bind fun v10 => (f_L_refuses_b50 z  x0 x1 y4 y8 ((13 : Int32) + v10) M5))))))))))
set_option maxRecDepth 20000 in
set_option maxHeartbeats 4000000 in
theorem t_L_refuses_b0 {z : Sh9} {N : Nv9} {X : Cx9} {out : Out9 × Mem9} {κ : Ka9} (C : OK9 z N X out 5 (30, 6 * 30) cL_refuses RL 11 2 [])  (hk : lq9 κ (30) (30, 6 * 30)) (x0 : Nat) (x1 : Int32) (M : Mem9) : J9 z N X out 5 0 [(0, .ref x0), (1, .int x1)] [] M κ (f_L_refuses_b0 z  x0 x1 M) := by
  refine j_ks0 ?_
  refine j_aload_n (pc := 0) C dL_refuses_0 rfl ?_
  refine j_iconst (pc := 1) C dL_refuses_1 (v := 2) rfl ?_
  refine j_iconst (pc := 2) C dL_refuses_2 (v := 0) rfl ?_
  refine j_iconst (pc := 3) C dL_refuses_3 (v := 0) rfl ?_
  refine j_iconst (pc := 4) C dL_refuses_4 (v := 0) rfl ?_
  refine j_callQS (pc := 5) (κ := ks9 κ 0) (κ1 := ks9 κ 1) (c := 1) C rfl dL_refuses_5 ls_L_160 rfl (Nat.le_of_ble_eq_true rfl) (Nat.le_of_ble_eq_true rfl) (by decide) (ks_add rfl) (lq_le hk (by omega)) (fun l hl o ho => sp_L_call hl ho) (fun v2 M1 => ?_)
  refine j_iload_n (pc := 8) C dL_refuses_8 rfl ?_
  refine j_bipush (pc := 9) C dL_refuses_9 (v := 50) rfl ?_
  refine j_irem (pc := 11) C dL_refuses_11 (fun v3 => ?_)
  refine j_iadd (pc := 12) C dL_refuses_12 ?_
  refine j_nm (st' := fun x9 : Int32 => .int x9 :: []) rfl (fun y4 => ?_)
  refine j_istore_n (pc := 13) C dL_refuses_13 (Nat.le_of_ble_eq_true rfl) (ls' := [(2, .int y4), (0, .ref x0), (1, .int x1)]) rfl ?_
  refine j_aload_n (pc := 14) C dL_refuses_14 rfl ?_
  refine j_iconst (pc := 15) C dL_refuses_15 (v := 3) rfl ?_
  refine j_iconst (pc := 16) C dL_refuses_16 (v := 0) rfl ?_
  refine j_iconst (pc := 17) C dL_refuses_17 (v := 0) rfl ?_
  refine j_iconst (pc := 18) C dL_refuses_18 (v := 0) rfl ?_
  refine j_callQS (pc := 19) (κ := ks9 κ 1) (κ1 := ks9 κ 2) (c := 1) C rfl dL_refuses_19 ls_L_160 rfl (Nat.le_of_ble_eq_true rfl) (Nat.le_of_ble_eq_true rfl) (by decide) (ks_add rfl) (lq_le hk (by omega)) (fun l hl o ho => sp_L_call hl ho) (fun v6 M5 => ?_)
  refine j_iload_n (pc := 22) C dL_refuses_22 rfl ?_
  refine j_bipush (pc := 23) C dL_refuses_23 (v := 50) rfl ?_
  refine j_irem (pc := 25) C dL_refuses_25 (fun v7 => ?_)
  refine j_iadd (pc := 26) C dL_refuses_26 ?_
  refine j_nm (st' := fun x9 : Int32 => .int x9 :: []) rfl (fun y8 => ?_)
  refine j_istore_n (pc := 27) C dL_refuses_27 (Nat.le_of_ble_eq_true rfl) (ls' := [(3, .int y8), (2, .int y4), (0, .ref x0), (1, .int x1)]) rfl ?_
  refine j_iload_n (pc := 28) C dL_refuses_28 rfl ?_
  refine j_iconst (pc := 29) C dL_refuses_29 (v := 2) rfl ?_
  refine j_irem (pc := 30) C dL_refuses_30 (fun v9 => ?_)
  refine j_if_ne (pc := 31) C dL_refuses_31 (tgt := 43) (by decide) (fun hc12 => ?_) (fun hc12 => ?_)
  · refine j_bipush (pc := 43) C dL_refuses_43 (v := 13) rfl ?_
    refine j_iload_n (pc := 45) C dL_refuses_45 rfl ?_
    refine j_bipush (pc := 46) C dL_refuses_46 (v := 99) rfl ?_
    refine j_irem (pc := 48) C dL_refuses_48 (fun v10 => ?_)
    refine j_iadd (pc := 49) C dL_refuses_49 ?_
    refine j_loc [2, 3, 1, 0] rfl ?_
    exact t_L_refuses_b50 (κ := ks9 κ 2) C  (lq_st hk (by omega)) x0 x1 y4 y8 ((13 : Int32) + v10) M5
  · refine j_iconst (pc := 34) C dL_refuses_34 (v := 1) rfl ?_
    refine j_iload_n (pc := 35) C dL_refuses_35 rfl ?_
    refine j_bipush (pc := 36) C dL_refuses_36 (v := 99) rfl ?_
    refine j_irem (pc := 38) C dL_refuses_38 (fun v11 => ?_)
    refine j_isub (pc := 39) C dL_refuses_39 ?_
    refine j_goto (pc := 40) C dL_refuses_40 (tgt := 50) (by decide) ?_
    refine j_loc [2, 3, 1, 0] rfl ?_
    exact t_L_refuses_b50 (κ := ks9 κ 2) C  (lq_st hk (by omega)) x0 x1 y4 y8 ((1 : Int32) - v11) M5
def f_L_refuses (z : Sh9) (a0 : Nat) (a1 : Int32) (M : Mem9) : Re9 := f_L_refuses_b0 z a0 a1 M
theorem sp_L_refuses {l : Launch} {z : Sh9} {N : Nv9} {a0 : Nat} {a1 : Int32} {M : Mem9} {o : Out9 × Mem9} (hl : l.stackTraces = false) (h : f_L_refuses z a0 a1 M = some o) : Sp9 l z N yL_refuses (Cond.code yL_refuses cL_refuses 5 (some .boolean)) 11 [.ref a0, .int a1] M (30, 6 * 30) o :=
  sp9_ofQ (rk := 2) (own := RL) (c9 := 30) (by decide +kernel) rfl (Or.inr (Or.inr (Or.inl ⟨rfl, rfl⟩))) hl (Nat.le_of_ble_eq_true rfl) (fun X C => t_L_refuses_b0 (κ := (0, 0)) C ⟨Nat.le_of_eq (Nat.zero_add _), Nat.le_of_eq (Nat.zero_add _)⟩ a0 a1 M) h
def f_L_law_b507 (z : Sh9) (L : Nat) (xs : Nat → Int32) (r62 : Nat → Nat → Int32 → Int32 → Int32 → Mem9 → Re9) (x1 : Nat) (x2 : Nat) (x4 : Int32) (x5 : Int32) (s0 : Int32) (M : Mem9) : Re9 :=
  (r62 x1 x2 s0 x4 (x5 + (1 : Int32)) M)
set_option maxRecDepth 20000 in
set_option maxHeartbeats 4000000 in
theorem t_L_law_b507 {z : Sh9} {sb L : Nat} {xs : Nat → Int32} {D : va_G} {ca : Nat → ClassId} {X : Cx9} {out : Out9 × Mem9} {cm : Ka9} {κ : Ka9} (C : OK9 z (sb, L, xs, D, ca) X out 20 cm cL_law RL 13 2 []) {E62 : Nat} {r62 : Nat → Nat → Int32 → Int32 → Int32 → Mem9 → Re9} (g62 : 0 ≤ E62) (h62 : ∀ κ2 : Ka9, lq9 κ2 E62 cm → ∀ (x1 : Nat) (x2 : Nat) (x3 : Int32) (x4 : Int32) (x5 : Int32) (M : Mem9), J9 z (sb, L, xs, D, ca) X out 20 62 [(0, .ref sb), (1, .ref x1), (2, .ref x2), (3, .int x3), (4, .int x4), (5, .int x5)] [] M κ2 (r62 x1 x2 x3 x4 x5 M)) (hk : lq9 κ (0 + E62) cm) (x1 : Nat) (x2 : Nat) (x4 : Int32) (x5 : Int32) (s0 : Int32) (M : Mem9) : J9 z (sb, L, xs, D, ca) X out 20 507 [(0, .ref sb), (1, .ref x1), (2, .ref x2), (4, .int x4), (5, .int x5)] [.int s0] M κ (f_L_law_b507 z L xs r62 x1 x2 x4 x5 s0 M) := by
  refine j_ks0 ?_
  refine j_istore_n (pc := 507) C dL_law_507 (Nat.le_of_ble_eq_true rfl) (ls' := [(3, .int s0), (0, .ref sb), (1, .ref x1), (2, .ref x2), (4, .int x4), (5, .int x5)]) rfl ?_
  refine j_iinc (pc := 508) C dL_law_508 rfl (v := (x5 + (1 : Int32))) rfl (Nat.le_of_ble_eq_true rfl) (ls' := [(5, .int (x5 + (1 : Int32))), (3, .int s0), (0, .ref sb), (1, .ref x1), (2, .ref x2), (4, .int x4)]) rfl ?_
  refine j_goto (pc := 511) C dL_law_511 (tgt := 62) (by decide) ?_
  refine j_loc [2, 3, 4, 1, 5, 0] rfl ?_
  exact h62 (ks9 κ 0) (lq_st hk (by omega)) x1 x2 s0 x4 (x5 + (1 : Int32)) M
def f_L_law_b506 (z : Sh9) (L : Nat) (xs : Nat → Int32) (r62 : Nat → Nat → Int32 → Int32 → Int32 → Mem9 → Re9) (x1 : Nat) (x2 : Nat) (x4 : Int32) (x5 : Int32) (M : Mem9) : Re9 :=
  (f_L_law_b507 z L xs r62 x1 x2 x4 x5 (0 : Int32) M)
set_option maxRecDepth 20000 in
set_option maxHeartbeats 4000000 in
theorem t_L_law_b506 {z : Sh9} {sb L : Nat} {xs : Nat → Int32} {D : va_G} {ca : Nat → ClassId} {X : Cx9} {out : Out9 × Mem9} {cm : Ka9} {κ : Ka9} (C : OK9 z (sb, L, xs, D, ca) X out 20 cm cL_law RL 13 2 []) {E62 : Nat} {r62 : Nat → Nat → Int32 → Int32 → Int32 → Mem9 → Re9} (g62 : 0 ≤ E62) (h62 : ∀ κ2 : Ka9, lq9 κ2 E62 cm → ∀ (x1 : Nat) (x2 : Nat) (x3 : Int32) (x4 : Int32) (x5 : Int32) (M : Mem9), J9 z (sb, L, xs, D, ca) X out 20 62 [(0, .ref sb), (1, .ref x1), (2, .ref x2), (3, .int x3), (4, .int x4), (5, .int x5)] [] M κ2 (r62 x1 x2 x3 x4 x5 M)) (hk : lq9 κ (0 + E62) cm) (x1 : Nat) (x2 : Nat) (x4 : Int32) (x5 : Int32) (M : Mem9) : J9 z (sb, L, xs, D, ca) X out 20 506 [(0, .ref sb), (1, .ref x1), (2, .ref x2), (4, .int x4), (5, .int x5)] [] M κ (f_L_law_b506 z L xs r62 x1 x2 x4 x5 M) := by
  refine j_ks0 ?_
  refine j_iconst (pc := 506) C dL_law_506 (v := 0) rfl ?_
  exact t_L_law_b507 (κ := ks9 κ 0) C g62 h62 (lq_st hk (by omega)) x1 x2 x4 x5 (0 : Int32) M
def f_L_law_b441 (z : Sh9) (L : Nat) (xs : Nat → Int32) (r62 : Nat → Nat → Int32 → Int32 → Int32 → Mem9 → Re9) (x1 : Nat) (x2 : Nat) (x4 : Int32) (x5 : Int32) (x6 : Int32) (x9 : Int32) (x19 : Int32) (s0 : Int32) (s1 : Int32) (M : Mem9) : Re9 :=
  (if s1 = s0 then (bi9 (f_L_call z x1 (11 : Int32) (0 : Int32) (0 : Int32) (0 : Int32) M) fun v90 M89 => (bi9 (f_L_thrown z v90 M89) fun v92 M91 => (if v92 = 0 then (bi9 (f_L_call z x2 (11 : Int32) (0 : Int32) (0 : Int32) (0 : Int32) M91) fun v94 M93 => (bi9 (f_L_thrown z v94 M93) fun v96 M95 => (if v96 = 0 then (bi9 (f_L_call z x1 (2 : Int32) (1 : Int32) (0 : Int32) (0 : Int32) M95) fun v98 M97 => (if v98 = x19 then ((dv9 x6 (9 : Int32)).bind fun v99 => (bi9 (f_L_lorry z x1 x2 x9 v99 M97) fun v101 M100 => (if v101 = 0 then (f_L_law_b506 z L xs r62 x1 x2 x4 x5 M100) else (f_L_law_b507 z L xs r62 x1 x2 x4 x5 (1 : Int32) M100)))) else (f_L_law_b506 z L xs r62 x1 x2 x4 x5 M97))) else (f_L_law_b506 z L xs r62 x1 x2 x4 x5 M95)))) else (f_L_law_b506 z L xs r62 x1 x2 x4 x5 M91)))) else (f_L_law_b506 z L xs r62 x1 x2 x4 x5 M))
set_option maxRecDepth 20000 in
set_option maxHeartbeats 4000000 in
theorem t_L_law_b441 {z : Sh9} {sb L : Nat} {xs : Nat → Int32} {D : va_G} {ca : Nat → ClassId} {X : Cx9} {out : Out9 × Mem9} {cm : Ka9} {κ : Ka9} (C : OK9 z (sb, L, xs, D, ca) X out 20 cm cL_law RL 13 2 []) {E62 : Nat} {r62 : Nat → Nat → Int32 → Int32 → Int32 → Mem9 → Re9} (g62 : 0 ≤ E62) (h62 : ∀ κ2 : Ka9, lq9 κ2 E62 cm → ∀ (x1 : Nat) (x2 : Nat) (x3 : Int32) (x4 : Int32) (x5 : Int32) (M : Mem9), J9 z (sb, L, xs, D, ca) X out 20 62 [(0, .ref sb), (1, .ref x1), (2, .ref x2), (3, .int x3), (4, .int x4), (5, .int x5)] [] M κ2 (r62 x1 x2 x3 x4 x5 M)) (hk : lq9 κ (33 + E62) cm) (x1 : Nat) (x2 : Nat) (x4 : Int32) (x5 : Int32) (x6 : Int32) (x9 : Int32) (x19 : Int32) (s0 : Int32) (s1 : Int32) (M : Mem9) : J9 z (sb, L, xs, D, ca) X out 20 441 [(0, .ref sb), (1, .ref x1), (2, .ref x2), (4, .int x4), (5, .int x5), (6, .int x6), (9, .int x9), (19, .int x19)] [.int s0, .int s1] M κ (f_L_law_b441 z L xs r62 x1 x2 x4 x5 x6 x9 x19 s0 s1 M) := by
  refine j_ks0 ?_
  refine j_icmp_ne (pc := 441) C dL_law_441 (tgt := 506) (by decide) (fun hc106 => ?_) (fun hc106 => ?_)
  · refine j_loc [0, 1, 2, 3, 4] rfl ?_
    exact t_L_law_b506 (κ := ks9 κ 0) C g62 h62 (lq_st hk (by omega)) x1 x2 x4 x5 M
  · refine j_aload_n (pc := 444) C dL_law_444 rfl ?_
    refine j_bipush (pc := 445) C dL_law_445 (v := 11) rfl ?_
    refine j_iconst (pc := 447) C dL_law_447 (v := 0) rfl ?_
    refine j_iconst (pc := 448) C dL_law_448 (v := 0) rfl ?_
    refine j_iconst (pc := 449) C dL_law_449 (v := 0) rfl ?_
    refine j_callQS (pc := 450) (κ := ks9 κ 0) (κ1 := ks9 κ 1) (c := 1) C rfl dL_law_450 ls_L_160 rfl (Nat.le_of_ble_eq_true rfl) (Nat.le_of_ble_eq_true rfl) (by decide) (ks_add rfl) (lq_le hk (by omega)) (fun l hl o ho => sp_L_call hl ho) (fun v90 M89 => ?_)
    refine j_callQS (pc := 453) (κ := ks9 κ 1) (κ1 := ks9 κ 1) (c := 0) C rfl dL_law_453 ls_L_203 rfl (Nat.le_of_ble_eq_true rfl) (Nat.le_of_ble_eq_true rfl) (by decide) (ks_add rfl) (lq_le hk (by omega)) (fun l hl o ho => sp_L_thrown hl ho) (fun v92 M91 => ?_)
    refine j_if_ne (pc := 456) C dL_law_456 (tgt := 506) (by decide) (fun hc105 => ?_) (fun hc105 => ?_)
    · refine j_loc [0, 1, 2, 3, 4] rfl ?_
      exact t_L_law_b506 (κ := ks9 κ 1) C g62 h62 (lq_st hk (by omega)) x1 x2 x4 x5 M91
    · refine j_aload_n (pc := 459) C dL_law_459 rfl ?_
      refine j_bipush (pc := 460) C dL_law_460 (v := 11) rfl ?_
      refine j_iconst (pc := 462) C dL_law_462 (v := 0) rfl ?_
      refine j_iconst (pc := 463) C dL_law_463 (v := 0) rfl ?_
      refine j_iconst (pc := 464) C dL_law_464 (v := 0) rfl ?_
      refine j_callQS (pc := 465) (κ := ks9 κ 1) (κ1 := ks9 κ 2) (c := 1) C rfl dL_law_465 ls_L_160 rfl (Nat.le_of_ble_eq_true rfl) (Nat.le_of_ble_eq_true rfl) (by decide) (ks_add rfl) (lq_le hk (by omega)) (fun l hl o ho => sp_L_call hl ho) (fun v94 M93 => ?_)
      refine j_callQS (pc := 468) (κ := ks9 κ 2) (κ1 := ks9 κ 2) (c := 0) C rfl dL_law_468 ls_L_203 rfl (Nat.le_of_ble_eq_true rfl) (Nat.le_of_ble_eq_true rfl) (by decide) (ks_add rfl) (lq_le hk (by omega)) (fun l hl o ho => sp_L_thrown hl ho) (fun v96 M95 => ?_)
      refine j_if_ne (pc := 471) C dL_law_471 (tgt := 506) (by decide) (fun hc104 => ?_) (fun hc104 => ?_)
      · refine j_loc [0, 1, 2, 3, 4] rfl ?_
        exact t_L_law_b506 (κ := ks9 κ 2) C g62 h62 (lq_st hk (by omega)) x1 x2 x4 x5 M95
      · refine j_aload_n (pc := 474) C dL_law_474 rfl ?_
        refine j_iconst (pc := 475) C dL_law_475 (v := 2) rfl ?_
        refine j_iconst (pc := 476) C dL_law_476 (v := 1) rfl ?_
        refine j_iconst (pc := 477) C dL_law_477 (v := 0) rfl ?_
        refine j_iconst (pc := 478) C dL_law_478 (v := 0) rfl ?_
        refine j_callQS (pc := 479) (κ := ks9 κ 2) (κ1 := ks9 κ 3) (c := 1) C rfl dL_law_479 ls_L_160 rfl (Nat.le_of_ble_eq_true rfl) (Nat.le_of_ble_eq_true rfl) (by decide) (ks_add rfl) (lq_le hk (by omega)) (fun l hl o ho => sp_L_call hl ho) (fun v98 M97 => ?_)
        refine j_iload (pc := 482) C dL_law_482 rfl ?_
        refine j_icmp_ne (pc := 484) C dL_law_484 (tgt := 506) (by decide) (fun hc103 => ?_) (fun hc103 => ?_)
        · refine j_loc [0, 1, 2, 3, 4] rfl ?_
          exact t_L_law_b506 (κ := ks9 κ 3) C g62 h62 (lq_st hk (by omega)) x1 x2 x4 x5 M97
        · refine j_aload_n (pc := 487) C dL_law_487 rfl ?_
          refine j_aload_n (pc := 488) C dL_law_488 rfl ?_
          refine j_iload (pc := 489) C dL_law_489 rfl ?_
          refine j_iload (pc := 491) C dL_law_491 rfl ?_
          refine j_bipush (pc := 493) C dL_law_493 (v := 9) rfl ?_
          refine j_idiv (pc := 495) C dL_law_495 (fun v99 => ?_)
          refine j_callQS (pc := 496) (κ := ks9 κ 3) (κ1 := ks9 κ 33) (c := 30) C rfl dL_law_496 ls_L_207 rfl (Nat.le_of_ble_eq_true rfl) (Nat.le_of_ble_eq_true rfl) (by decide) (ks_add rfl) (lq_le hk (by omega)) (fun l hl o ho => sp_L_lorry hl ho) (fun v101 M100 => ?_)
          refine j_if_eq (pc := 499) C dL_law_499 (tgt := 506) (by decide) (fun hc102 => ?_) (fun hc102 => ?_)
          · refine j_loc [0, 1, 2, 3, 4] rfl ?_
            exact t_L_law_b506 (κ := ks9 κ 33) C g62 h62 (lq_st hk (by omega)) x1 x2 x4 x5 M100
          · refine j_iconst (pc := 502) C dL_law_502 (v := 1) rfl ?_
            refine j_goto (pc := 503) C dL_law_503 (tgt := 507) (by decide) ?_
            refine j_loc [0, 1, 2, 3, 4] rfl ?_
            exact t_L_law_b507 (κ := ks9 κ 33) C g62 h62 (lq_st hk (by omega)) x1 x2 x4 x5 (1 : Int32) M100
def f_L_law_b440 (z : Sh9) (L : Nat) (xs : Nat → Int32) (r62 : Nat → Nat → Int32 → Int32 → Int32 → Mem9 → Re9) (x1 : Nat) (x2 : Nat) (x4 : Int32) (x5 : Int32) (x6 : Int32) (x9 : Int32) (x19 : Int32) (s0 : Int32) (M : Mem9) : Re9 :=
  (f_L_law_b441 z L xs r62 x1 x2 x4 x5 x6 x9 x19 (0 : Int32) s0 M)
set_option maxRecDepth 20000 in
set_option maxHeartbeats 4000000 in
theorem t_L_law_b440 {z : Sh9} {sb L : Nat} {xs : Nat → Int32} {D : va_G} {ca : Nat → ClassId} {X : Cx9} {out : Out9 × Mem9} {cm : Ka9} {κ : Ka9} (C : OK9 z (sb, L, xs, D, ca) X out 20 cm cL_law RL 13 2 []) {E62 : Nat} {r62 : Nat → Nat → Int32 → Int32 → Int32 → Mem9 → Re9} (g62 : 0 ≤ E62) (h62 : ∀ κ2 : Ka9, lq9 κ2 E62 cm → ∀ (x1 : Nat) (x2 : Nat) (x3 : Int32) (x4 : Int32) (x5 : Int32) (M : Mem9), J9 z (sb, L, xs, D, ca) X out 20 62 [(0, .ref sb), (1, .ref x1), (2, .ref x2), (3, .int x3), (4, .int x4), (5, .int x5)] [] M κ2 (r62 x1 x2 x3 x4 x5 M)) (hk : lq9 κ (33 + E62) cm) (x1 : Nat) (x2 : Nat) (x4 : Int32) (x5 : Int32) (x6 : Int32) (x9 : Int32) (x19 : Int32) (s0 : Int32) (M : Mem9) : J9 z (sb, L, xs, D, ca) X out 20 440 [(0, .ref sb), (1, .ref x1), (2, .ref x2), (4, .int x4), (5, .int x5), (6, .int x6), (9, .int x9), (19, .int x19)] [.int s0] M κ (f_L_law_b440 z L xs r62 x1 x2 x4 x5 x6 x9 x19 s0 M) := by
  refine j_ks0 ?_
  refine j_iconst (pc := 440) C dL_law_440 (v := 0) rfl ?_
  exact t_L_law_b441 (κ := ks9 κ 0) C g62 h62 (lq_st hk (by omega)) x1 x2 x4 x5 x6 x9 x19 (0 : Int32) s0 M
def f_L_law_b423 (z : Sh9) (L : Nat) (xs : Nat → Int32) (r62 : Nat → Nat → Int32 → Int32 → Int32 → Mem9 → Re9) (x1 : Nat) (x2 : Nat) (x4 : Int32) (x5 : Int32) (x6 : Int32) (x9 : Int32) (x10 : Int32) (x15 : Int32) (x19 : Int32) (s0 : Int32) (M : Mem9) : Re9 :=
  (if x15 = (-1 : Int32) then (f_L_law_b440 z L xs r62 x1 x2 x4 x5 x6 x9 x19 s0 M) else (if x10 < x15 then (f_L_law_b440 z L xs r62 x1 x2 x4 x5 x6 x9 x19 s0 M) else (f_L_law_b441 z L xs r62 x1 x2 x4 x5 x6 x9 x19 (1 : Int32) s0 M)))
set_option maxRecDepth 20000 in
set_option maxHeartbeats 4000000 in
theorem t_L_law_b423 {z : Sh9} {sb L : Nat} {xs : Nat → Int32} {D : va_G} {ca : Nat → ClassId} {X : Cx9} {out : Out9 × Mem9} {cm : Ka9} {κ : Ka9} (C : OK9 z (sb, L, xs, D, ca) X out 20 cm cL_law RL 13 2 []) {E62 : Nat} {r62 : Nat → Nat → Int32 → Int32 → Int32 → Mem9 → Re9} (g62 : 0 ≤ E62) (h62 : ∀ κ2 : Ka9, lq9 κ2 E62 cm → ∀ (x1 : Nat) (x2 : Nat) (x3 : Int32) (x4 : Int32) (x5 : Int32) (M : Mem9), J9 z (sb, L, xs, D, ca) X out 20 62 [(0, .ref sb), (1, .ref x1), (2, .ref x2), (3, .int x3), (4, .int x4), (5, .int x5)] [] M κ2 (r62 x1 x2 x3 x4 x5 M)) (hk : lq9 κ (33 + E62) cm) (x1 : Nat) (x2 : Nat) (x4 : Int32) (x5 : Int32) (x6 : Int32) (x9 : Int32) (x10 : Int32) (x15 : Int32) (x19 : Int32) (s0 : Int32) (M : Mem9) : J9 z (sb, L, xs, D, ca) X out 20 423 [(0, .ref sb), (1, .ref x1), (2, .ref x2), (4, .int x4), (5, .int x5), (6, .int x6), (9, .int x9), (10, .int x10), (15, .int x15), (19, .int x19)] [.int s0] M κ (f_L_law_b423 z L xs r62 x1 x2 x4 x5 x6 x9 x10 x15 x19 s0 M) := by
  refine j_ks0 ?_
  refine j_iload (pc := 423) C dL_law_423 rfl ?_
  refine j_iconst (pc := 425) C dL_law_425 (v := -1) rfl ?_
  refine j_icmp_eq (pc := 426) C dL_law_426 (tgt := 440) (by decide) (fun hc88 => ?_) (fun hc88 => ?_)
  · refine j_loc [0, 1, 2, 3, 4, 5, 6, 9] rfl ?_
    exact t_L_law_b440 (κ := ks9 κ 0) C g62 h62 (lq_st hk (by omega)) x1 x2 x4 x5 x6 x9 x19 s0 M
  · refine j_iload (pc := 429) C dL_law_429 rfl ?_
    refine j_iload (pc := 431) C dL_law_431 rfl ?_
    refine j_icmp_gt (pc := 433) C dL_law_433 (tgt := 440) (by decide) (fun hc87 => ?_) (fun hc87 => ?_)
    · refine j_loc [0, 1, 2, 3, 4, 5, 6, 9] rfl ?_
      exact t_L_law_b440 (κ := ks9 κ 0) C g62 h62 (lq_st hk (by omega)) x1 x2 x4 x5 x6 x9 x19 s0 M
    · refine j_iconst (pc := 436) C dL_law_436 (v := 1) rfl ?_
      refine j_goto (pc := 437) C dL_law_437 (tgt := 441) (by decide) ?_
      refine j_loc [0, 1, 2, 3, 4, 5, 6, 9] rfl ?_
      exact t_L_law_b441 (κ := ks9 κ 0) C g62 h62 (lq_st hk (by omega)) x1 x2 x4 x5 x6 x9 x19 (1 : Int32) s0 M
def f_L_law_b170 (z : Sh9) (L : Nat) (xs : Nat → Int32) (r62 : Nat → Nat → Int32 → Int32 → Int32 → Mem9 → Re9) (x1 : Nat) (x2 : Nat) (x4 : Int32) (x5 : Int32) (x6 : Int32) (s0 : Int32) (M : Mem9) : Re9 :=
  (bi9 (f_L_call z x1 (2 : Int32) (0 : Int32) (0 : Int32) (0 : Int32) M) fun v41 M40 => ((dv9 x6 (7 : Int32)).bind fun v42 => ((rm9 v42 v41).bind fun v43 => ((dv9 x6 (21 : Int32)).bind fun v44 => ((rm9 v44 (60 : Int32)).bind fun v45 => (nm9 ((1 : Int32) + v45) fun (y46 : Int32) => (bi9 (f_L_call z x1 (15 : Int32) y46 (0 : Int32) (0 : Int32) M40) fun v48 M47 => (bi9 (f_L_call z x1 (15 : Int32) y46 (1 : Int32) (0 : Int32) M47) fun v50 M49 => (bi9 (f_L_call z x1 (15 : Int32) y46 (2 : Int32) (0 : Int32) M49) fun v52 M51 => (bi9 (f_L_call z x1 (15 : Int32) y46 (3 : Int32) (0 : Int32) M51) fun v54 M53 => (bi9 (f_L_call z x1 (12 : Int32) v43 (0 : Int32) (0 : Int32) M53) fun v56 M55 => (bi9 (f_L_call z x1 (2 : Int32) (4 : Int32) (0 : Int32) (0 : Int32) M55) fun v58 M57 => (bi9 (f_L_call z x1 (2 : Int32) (5 : Int32) (0 : Int32) (0 : Int32) M57) fun v60 M59 => (bi9 (f_L_call z x1 (2 : Int32) (6 : Int32) (0 : Int32) (0 : Int32) M59) fun v62 M61 => (bi9 (f_L_call z x1 (2 : Int32) (1 : Int32) (0 : Int32) (0 : Int32) M61) fun v64 M63 => (if s0 = 0 then (f_L_law_b506 z L xs r62 x1 x2 x4 x5 M63) else (bi9 (f_L_call z x1 (9 : Int32) y46 (0 : Int32) (0 : Int32) M63) fun v66 M65 => (if v66 = (v48 + v50) then (bi9 (f_L_call z x2 (9 : Int32) y46 (0 : Int32) (0 : Int32) M65) fun v68 M67 => (if v68 = (v48 + v50) then (bi9 (f_L_call z x1 (2 : Int32) (4 : Int32) (0 : Int32) (0 : Int32) M67) fun v70 M69 => (if v70 = (v58 + v48) then (bi9 (f_L_call z x1 (2 : Int32) (5 : Int32) (0 : Int32) (0 : Int32) M69) fun v72 M71 => (if v72 = (v60 + v50) then (bi9 (f_L_call z x1 (2 : Int32) (6 : Int32) (0 : Int32) (0 : Int32) M71) fun v74 M73 => (if v74 = (v62 + v52) then (bi9 (f_L_call z x1 (2 : Int32) (2 : Int32) (0 : Int32) (0 : Int32) M73) fun v76 M75 => (if v76 = v54 then (bi9 (f_L_call z x1 (3 : Int32) v43 (0 : Int32) (0 : Int32) M75) fun v78 M77 => (if v78 = 0 then (f_L_law_b423 z L xs r62 x1 x2 x4 x5 x6 v43 y46 v56 v64 (1 : Int32) M77) else (f_L_law_b423 z L xs r62 x1 x2 x4 x5 x6 v43 y46 v56 v64 (0 : Int32) M77))) else (f_L_law_b506 z L xs r62 x1 x2 x4 x5 M75))) else (f_L_law_b506 z L xs r62 x1 x2 x4 x5 M73))) else (f_L_law_b506 z L xs r62 x1 x2 x4 x5 M71))) else (f_L_law_b506 z L xs r62 x1 x2 x4 x5 M69))) else (f_L_law_b506 z L xs r62 x1 x2 x4 x5 M67))) else (f_L_law_b506 z L xs r62 x1 x2 x4 x5 M65)))))))))))))))))))
set_option maxRecDepth 20000 in
set_option maxHeartbeats 4000000 in
theorem t_L_law_b170 {z : Sh9} {sb L : Nat} {xs : Nat → Int32} {D : va_G} {ca : Nat → ClassId} {X : Cx9} {out : Out9 × Mem9} {cm : Ka9} {κ : Ka9} (C : OK9 z (sb, L, xs, D, ca) X out 20 cm cL_law RL 13 2 []) {E62 : Nat} {r62 : Nat → Nat → Int32 → Int32 → Int32 → Mem9 → Re9} (g62 : 0 ≤ E62) (h62 : ∀ κ2 : Ka9, lq9 κ2 E62 cm → ∀ (x1 : Nat) (x2 : Nat) (x3 : Int32) (x4 : Int32) (x5 : Int32) (M : Mem9), J9 z (sb, L, xs, D, ca) X out 20 62 [(0, .ref sb), (1, .ref x1), (2, .ref x2), (3, .int x3), (4, .int x4), (5, .int x5)] [] M κ2 (r62 x1 x2 x3 x4 x5 M)) (hk : lq9 κ (50 + E62) cm) (x1 : Nat) (x2 : Nat) (x4 : Int32) (x5 : Int32) (x6 : Int32) (s0 : Int32) (M : Mem9) : J9 z (sb, L, xs, D, ca) X out 20 170 [(0, .ref sb), (1, .ref x1), (2, .ref x2), (4, .int x4), (5, .int x5), (6, .int x6)] [.int s0] M κ (f_L_law_b170 z L xs r62 x1 x2 x4 x5 x6 s0 M) := by
  refine j_ks0 ?_
  refine j_istore_n (pc := 170) C dL_law_170 (Nat.le_of_ble_eq_true rfl) (ls' := [(3, .int s0), (0, .ref sb), (1, .ref x1), (2, .ref x2), (4, .int x4), (5, .int x5), (6, .int x6)]) rfl ?_
  refine j_aload_n (pc := 171) C dL_law_171 rfl ?_
  refine j_iconst (pc := 172) C dL_law_172 (v := 2) rfl ?_
  refine j_iconst (pc := 173) C dL_law_173 (v := 0) rfl ?_
  refine j_iconst (pc := 174) C dL_law_174 (v := 0) rfl ?_
  refine j_iconst (pc := 175) C dL_law_175 (v := 0) rfl ?_
  refine j_callQS (pc := 176) (κ := ks9 κ 0) (κ1 := ks9 κ 1) (c := 1) C rfl dL_law_176 ls_L_160 rfl (Nat.le_of_ble_eq_true rfl) (Nat.le_of_ble_eq_true rfl) (by decide) (ks_add rfl) (lq_le hk (by omega)) (fun l hl o ho => sp_L_call hl ho) (fun v41 M40 => ?_)
  refine j_istore (pc := 179) C dL_law_179 (Nat.le_of_ble_eq_true rfl) (ls' := [(8, .int v41), (3, .int s0), (0, .ref sb), (1, .ref x1), (2, .ref x2), (4, .int x4), (5, .int x5), (6, .int x6)]) rfl ?_
  refine j_iload (pc := 181) C dL_law_181 rfl ?_
  refine j_bipush (pc := 183) C dL_law_183 (v := 7) rfl ?_
  refine j_idiv (pc := 185) C dL_law_185 (fun v42 => ?_)
  refine j_iload (pc := 186) C dL_law_186 rfl ?_
  refine j_irem (pc := 188) C dL_law_188 (fun v43 => ?_)
  refine j_istore (pc := 189) C dL_law_189 (Nat.le_of_ble_eq_true rfl) (ls' := [(9, .int v43), (8, .int v41), (3, .int s0), (0, .ref sb), (1, .ref x1), (2, .ref x2), (4, .int x4), (5, .int x5), (6, .int x6)]) rfl ?_
  refine j_iconst (pc := 191) C dL_law_191 (v := 1) rfl ?_
  refine j_iload (pc := 192) C dL_law_192 rfl ?_
  refine j_bipush (pc := 194) C dL_law_194 (v := 21) rfl ?_
  refine j_idiv (pc := 196) C dL_law_196 (fun v44 => ?_)
  refine j_bipush (pc := 197) C dL_law_197 (v := 60) rfl ?_
  refine j_irem (pc := 199) C dL_law_199 (fun v45 => ?_)
  refine j_iadd (pc := 200) C dL_law_200 ?_
  refine j_nm (st' := fun x9 : Int32 => .int x9 :: []) rfl (fun y46 => ?_)
  refine j_istore (pc := 201) C dL_law_201 (Nat.le_of_ble_eq_true rfl) (ls' := [(10, .int y46), (9, .int v43), (8, .int v41), (3, .int s0), (0, .ref sb), (1, .ref x1), (2, .ref x2), (4, .int x4), (5, .int x5), (6, .int x6)]) rfl ?_
  refine j_aload_n (pc := 203) C dL_law_203 rfl ?_
  refine j_bipush (pc := 204) C dL_law_204 (v := 15) rfl ?_
  refine j_iload (pc := 206) C dL_law_206 rfl ?_
  refine j_iconst (pc := 208) C dL_law_208 (v := 0) rfl ?_
  refine j_iconst (pc := 209) C dL_law_209 (v := 0) rfl ?_
  refine j_callQS (pc := 210) (κ := ks9 κ 1) (κ1 := ks9 κ 2) (c := 1) C rfl dL_law_210 ls_L_160 rfl (Nat.le_of_ble_eq_true rfl) (Nat.le_of_ble_eq_true rfl) (by decide) (ks_add rfl) (lq_le hk (by omega)) (fun l hl o ho => sp_L_call hl ho) (fun v48 M47 => ?_)
  refine j_istore (pc := 213) C dL_law_213 (Nat.le_of_ble_eq_true rfl) (ls' := [(11, .int v48), (10, .int y46), (9, .int v43), (8, .int v41), (3, .int s0), (0, .ref sb), (1, .ref x1), (2, .ref x2), (4, .int x4), (5, .int x5), (6, .int x6)]) rfl ?_
  refine j_aload_n (pc := 215) C dL_law_215 rfl ?_
  refine j_bipush (pc := 216) C dL_law_216 (v := 15) rfl ?_
  refine j_iload (pc := 218) C dL_law_218 rfl ?_
  refine j_iconst (pc := 220) C dL_law_220 (v := 1) rfl ?_
  refine j_iconst (pc := 221) C dL_law_221 (v := 0) rfl ?_
  refine j_callQS (pc := 222) (κ := ks9 κ 2) (κ1 := ks9 κ 3) (c := 1) C rfl dL_law_222 ls_L_160 rfl (Nat.le_of_ble_eq_true rfl) (Nat.le_of_ble_eq_true rfl) (by decide) (ks_add rfl) (lq_le hk (by omega)) (fun l hl o ho => sp_L_call hl ho) (fun v50 M49 => ?_)
  refine j_istore (pc := 225) C dL_law_225 (Nat.le_of_ble_eq_true rfl) (ls' := [(12, .int v50), (11, .int v48), (10, .int y46), (9, .int v43), (8, .int v41), (3, .int s0), (0, .ref sb), (1, .ref x1), (2, .ref x2), (4, .int x4), (5, .int x5), (6, .int x6)]) rfl ?_
  refine j_aload_n (pc := 227) C dL_law_227 rfl ?_
  refine j_bipush (pc := 228) C dL_law_228 (v := 15) rfl ?_
  refine j_iload (pc := 230) C dL_law_230 rfl ?_
  refine j_iconst (pc := 232) C dL_law_232 (v := 2) rfl ?_
  refine j_iconst (pc := 233) C dL_law_233 (v := 0) rfl ?_
  refine j_callQS (pc := 234) (κ := ks9 κ 3) (κ1 := ks9 κ 4) (c := 1) C rfl dL_law_234 ls_L_160 rfl (Nat.le_of_ble_eq_true rfl) (Nat.le_of_ble_eq_true rfl) (by decide) (ks_add rfl) (lq_le hk (by omega)) (fun l hl o ho => sp_L_call hl ho) (fun v52 M51 => ?_)
  refine j_istore (pc := 237) C dL_law_237 (Nat.le_of_ble_eq_true rfl) (ls' := [(13, .int v52), (12, .int v50), (11, .int v48), (10, .int y46), (9, .int v43), (8, .int v41), (3, .int s0), (0, .ref sb), (1, .ref x1), (2, .ref x2), (4, .int x4), (5, .int x5), (6, .int x6)]) rfl ?_
  refine j_aload_n (pc := 239) C dL_law_239 rfl ?_
  refine j_bipush (pc := 240) C dL_law_240 (v := 15) rfl ?_
  refine j_iload (pc := 242) C dL_law_242 rfl ?_
  refine j_iconst (pc := 244) C dL_law_244 (v := 3) rfl ?_
  refine j_iconst (pc := 245) C dL_law_245 (v := 0) rfl ?_
  refine j_callQS (pc := 246) (κ := ks9 κ 4) (κ1 := ks9 κ 5) (c := 1) C rfl dL_law_246 ls_L_160 rfl (Nat.le_of_ble_eq_true rfl) (Nat.le_of_ble_eq_true rfl) (by decide) (ks_add rfl) (lq_le hk (by omega)) (fun l hl o ho => sp_L_call hl ho) (fun v54 M53 => ?_)
  refine j_istore (pc := 249) C dL_law_249 (Nat.le_of_ble_eq_true rfl) (ls' := [(14, .int v54), (13, .int v52), (12, .int v50), (11, .int v48), (10, .int y46), (9, .int v43), (8, .int v41), (3, .int s0), (0, .ref sb), (1, .ref x1), (2, .ref x2), (4, .int x4), (5, .int x5), (6, .int x6)]) rfl ?_
  refine j_aload_n (pc := 251) C dL_law_251 rfl ?_
  refine j_bipush (pc := 252) C dL_law_252 (v := 12) rfl ?_
  refine j_iload (pc := 254) C dL_law_254 rfl ?_
  refine j_iconst (pc := 256) C dL_law_256 (v := 0) rfl ?_
  refine j_iconst (pc := 257) C dL_law_257 (v := 0) rfl ?_
  refine j_callQS (pc := 258) (κ := ks9 κ 5) (κ1 := ks9 κ 6) (c := 1) C rfl dL_law_258 ls_L_160 rfl (Nat.le_of_ble_eq_true rfl) (Nat.le_of_ble_eq_true rfl) (by decide) (ks_add rfl) (lq_le hk (by omega)) (fun l hl o ho => sp_L_call hl ho) (fun v56 M55 => ?_)
  refine j_istore (pc := 261) C dL_law_261 (Nat.le_of_ble_eq_true rfl) (ls' := [(15, .int v56), (14, .int v54), (13, .int v52), (12, .int v50), (11, .int v48), (10, .int y46), (9, .int v43), (8, .int v41), (3, .int s0), (0, .ref sb), (1, .ref x1), (2, .ref x2), (4, .int x4), (5, .int x5), (6, .int x6)]) rfl ?_
  refine j_aload_n (pc := 263) C dL_law_263 rfl ?_
  refine j_iconst (pc := 264) C dL_law_264 (v := 2) rfl ?_
  refine j_iconst (pc := 265) C dL_law_265 (v := 4) rfl ?_
  refine j_iconst (pc := 266) C dL_law_266 (v := 0) rfl ?_
  refine j_iconst (pc := 267) C dL_law_267 (v := 0) rfl ?_
  refine j_callQS (pc := 268) (κ := ks9 κ 6) (κ1 := ks9 κ 7) (c := 1) C rfl dL_law_268 ls_L_160 rfl (Nat.le_of_ble_eq_true rfl) (Nat.le_of_ble_eq_true rfl) (by decide) (ks_add rfl) (lq_le hk (by omega)) (fun l hl o ho => sp_L_call hl ho) (fun v58 M57 => ?_)
  refine j_istore (pc := 271) C dL_law_271 (Nat.le_of_ble_eq_true rfl) (ls' := [(16, .int v58), (15, .int v56), (14, .int v54), (13, .int v52), (12, .int v50), (11, .int v48), (10, .int y46), (9, .int v43), (8, .int v41), (3, .int s0), (0, .ref sb), (1, .ref x1), (2, .ref x2), (4, .int x4), (5, .int x5), (6, .int x6)]) rfl ?_
  refine j_aload_n (pc := 273) C dL_law_273 rfl ?_
  refine j_iconst (pc := 274) C dL_law_274 (v := 2) rfl ?_
  refine j_iconst (pc := 275) C dL_law_275 (v := 5) rfl ?_
  refine j_iconst (pc := 276) C dL_law_276 (v := 0) rfl ?_
  refine j_iconst (pc := 277) C dL_law_277 (v := 0) rfl ?_
  refine j_callQS (pc := 278) (κ := ks9 κ 7) (κ1 := ks9 κ 8) (c := 1) C rfl dL_law_278 ls_L_160 rfl (Nat.le_of_ble_eq_true rfl) (Nat.le_of_ble_eq_true rfl) (by decide) (ks_add rfl) (lq_le hk (by omega)) (fun l hl o ho => sp_L_call hl ho) (fun v60 M59 => ?_)
  refine j_istore (pc := 281) C dL_law_281 (Nat.le_of_ble_eq_true rfl) (ls' := [(17, .int v60), (16, .int v58), (15, .int v56), (14, .int v54), (13, .int v52), (12, .int v50), (11, .int v48), (10, .int y46), (9, .int v43), (8, .int v41), (3, .int s0), (0, .ref sb), (1, .ref x1), (2, .ref x2), (4, .int x4), (5, .int x5), (6, .int x6)]) rfl ?_
  refine j_aload_n (pc := 283) C dL_law_283 rfl ?_
  refine j_iconst (pc := 284) C dL_law_284 (v := 2) rfl ?_
  refine j_bipush (pc := 285) C dL_law_285 (v := 6) rfl ?_
  refine j_iconst (pc := 287) C dL_law_287 (v := 0) rfl ?_
  refine j_iconst (pc := 288) C dL_law_288 (v := 0) rfl ?_
  refine j_callQS (pc := 289) (κ := ks9 κ 8) (κ1 := ks9 κ 9) (c := 1) C rfl dL_law_289 ls_L_160 rfl (Nat.le_of_ble_eq_true rfl) (Nat.le_of_ble_eq_true rfl) (by decide) (ks_add rfl) (lq_le hk (by omega)) (fun l hl o ho => sp_L_call hl ho) (fun v62 M61 => ?_)
  refine j_istore (pc := 292) C dL_law_292 (Nat.le_of_ble_eq_true rfl) (ls' := [(18, .int v62), (17, .int v60), (16, .int v58), (15, .int v56), (14, .int v54), (13, .int v52), (12, .int v50), (11, .int v48), (10, .int y46), (9, .int v43), (8, .int v41), (3, .int s0), (0, .ref sb), (1, .ref x1), (2, .ref x2), (4, .int x4), (5, .int x5), (6, .int x6)]) rfl ?_
  refine j_aload_n (pc := 294) C dL_law_294 rfl ?_
  refine j_iconst (pc := 295) C dL_law_295 (v := 2) rfl ?_
  refine j_iconst (pc := 296) C dL_law_296 (v := 1) rfl ?_
  refine j_iconst (pc := 297) C dL_law_297 (v := 0) rfl ?_
  refine j_iconst (pc := 298) C dL_law_298 (v := 0) rfl ?_
  refine j_callQS (pc := 299) (κ := ks9 κ 9) (κ1 := ks9 κ 10) (c := 1) C rfl dL_law_299 ls_L_160 rfl (Nat.le_of_ble_eq_true rfl) (Nat.le_of_ble_eq_true rfl) (by decide) (ks_add rfl) (lq_le hk (by omega)) (fun l hl o ho => sp_L_call hl ho) (fun v64 M63 => ?_)
  refine j_istore (pc := 302) C dL_law_302 (Nat.le_of_ble_eq_true rfl) (ls' := [(19, .int v64), (18, .int v62), (17, .int v60), (16, .int v58), (15, .int v56), (14, .int v54), (13, .int v52), (12, .int v50), (11, .int v48), (10, .int y46), (9, .int v43), (8, .int v41), (3, .int s0), (0, .ref sb), (1, .ref x1), (2, .ref x2), (4, .int x4), (5, .int x5), (6, .int x6)]) rfl ?_
  refine j_iload_n (pc := 304) C dL_law_304 rfl ?_
  refine j_if_eq (pc := 305) C dL_law_305 (tgt := 506) (by decide) (fun hc86 => ?_) (fun hc86 => ?_)
  · refine j_loc [13, 14, 15, 16, 17] rfl ?_
    exact t_L_law_b506 (κ := ks9 κ 10) C g62 h62 (lq_st hk (by omega)) x1 x2 x4 x5 M63
  · refine j_aload_n (pc := 308) C dL_law_308 rfl ?_
    refine j_bipush (pc := 309) C dL_law_309 (v := 9) rfl ?_
    refine j_iload (pc := 311) C dL_law_311 rfl ?_
    refine j_iconst (pc := 313) C dL_law_313 (v := 0) rfl ?_
    refine j_iconst (pc := 314) C dL_law_314 (v := 0) rfl ?_
    refine j_callQS (pc := 315) (κ := ks9 κ 10) (κ1 := ks9 κ 11) (c := 1) C rfl dL_law_315 ls_L_160 rfl (Nat.le_of_ble_eq_true rfl) (Nat.le_of_ble_eq_true rfl) (by decide) (ks_add rfl) (lq_le hk (by omega)) (fun l hl o ho => sp_L_call hl ho) (fun v66 M65 => ?_)
    refine j_iload (pc := 318) C dL_law_318 rfl ?_
    refine j_iload (pc := 320) C dL_law_320 rfl ?_
    refine j_iadd (pc := 322) C dL_law_322 ?_
    refine j_icmp_ne (pc := 323) C dL_law_323 (tgt := 506) (by decide) (fun hc85 => ?_) (fun hc85 => ?_)
    · refine j_loc [13, 14, 15, 16, 17] rfl ?_
      exact t_L_law_b506 (κ := ks9 κ 11) C g62 h62 (lq_st hk (by omega)) x1 x2 x4 x5 M65
    · refine j_aload_n (pc := 326) C dL_law_326 rfl ?_
      refine j_bipush (pc := 327) C dL_law_327 (v := 9) rfl ?_
      refine j_iload (pc := 329) C dL_law_329 rfl ?_
      refine j_iconst (pc := 331) C dL_law_331 (v := 0) rfl ?_
      refine j_iconst (pc := 332) C dL_law_332 (v := 0) rfl ?_
      refine j_callQS (pc := 333) (κ := ks9 κ 11) (κ1 := ks9 κ 12) (c := 1) C rfl dL_law_333 ls_L_160 rfl (Nat.le_of_ble_eq_true rfl) (Nat.le_of_ble_eq_true rfl) (by decide) (ks_add rfl) (lq_le hk (by omega)) (fun l hl o ho => sp_L_call hl ho) (fun v68 M67 => ?_)
      refine j_iload (pc := 336) C dL_law_336 rfl ?_
      refine j_iload (pc := 338) C dL_law_338 rfl ?_
      refine j_iadd (pc := 340) C dL_law_340 ?_
      refine j_icmp_ne (pc := 341) C dL_law_341 (tgt := 506) (by decide) (fun hc84 => ?_) (fun hc84 => ?_)
      · refine j_loc [13, 14, 15, 16, 17] rfl ?_
        exact t_L_law_b506 (κ := ks9 κ 12) C g62 h62 (lq_st hk (by omega)) x1 x2 x4 x5 M67
      · refine j_aload_n (pc := 344) C dL_law_344 rfl ?_
        refine j_iconst (pc := 345) C dL_law_345 (v := 2) rfl ?_
        refine j_iconst (pc := 346) C dL_law_346 (v := 4) rfl ?_
        refine j_iconst (pc := 347) C dL_law_347 (v := 0) rfl ?_
        refine j_iconst (pc := 348) C dL_law_348 (v := 0) rfl ?_
        refine j_callQS (pc := 349) (κ := ks9 κ 12) (κ1 := ks9 κ 13) (c := 1) C rfl dL_law_349 ls_L_160 rfl (Nat.le_of_ble_eq_true rfl) (Nat.le_of_ble_eq_true rfl) (by decide) (ks_add rfl) (lq_le hk (by omega)) (fun l hl o ho => sp_L_call hl ho) (fun v70 M69 => ?_)
        refine j_iload (pc := 352) C dL_law_352 rfl ?_
        refine j_iload (pc := 354) C dL_law_354 rfl ?_
        refine j_iadd (pc := 356) C dL_law_356 ?_
        refine j_icmp_ne (pc := 357) C dL_law_357 (tgt := 506) (by decide) (fun hc83 => ?_) (fun hc83 => ?_)
        · refine j_loc [13, 14, 15, 16, 17] rfl ?_
          exact t_L_law_b506 (κ := ks9 κ 13) C g62 h62 (lq_st hk (by omega)) x1 x2 x4 x5 M69
        · refine j_aload_n (pc := 360) C dL_law_360 rfl ?_
          refine j_iconst (pc := 361) C dL_law_361 (v := 2) rfl ?_
          refine j_iconst (pc := 362) C dL_law_362 (v := 5) rfl ?_
          refine j_iconst (pc := 363) C dL_law_363 (v := 0) rfl ?_
          refine j_iconst (pc := 364) C dL_law_364 (v := 0) rfl ?_
          refine j_callQS (pc := 365) (κ := ks9 κ 13) (κ1 := ks9 κ 14) (c := 1) C rfl dL_law_365 ls_L_160 rfl (Nat.le_of_ble_eq_true rfl) (Nat.le_of_ble_eq_true rfl) (by decide) (ks_add rfl) (lq_le hk (by omega)) (fun l hl o ho => sp_L_call hl ho) (fun v72 M71 => ?_)
          refine j_iload (pc := 368) C dL_law_368 rfl ?_
          refine j_iload (pc := 370) C dL_law_370 rfl ?_
          refine j_iadd (pc := 372) C dL_law_372 ?_
          refine j_icmp_ne (pc := 373) C dL_law_373 (tgt := 506) (by decide) (fun hc82 => ?_) (fun hc82 => ?_)
          · refine j_loc [13, 14, 15, 16, 17] rfl ?_
            exact t_L_law_b506 (κ := ks9 κ 14) C g62 h62 (lq_st hk (by omega)) x1 x2 x4 x5 M71
          · refine j_aload_n (pc := 376) C dL_law_376 rfl ?_
            refine j_iconst (pc := 377) C dL_law_377 (v := 2) rfl ?_
            refine j_bipush (pc := 378) C dL_law_378 (v := 6) rfl ?_
            refine j_iconst (pc := 380) C dL_law_380 (v := 0) rfl ?_
            refine j_iconst (pc := 381) C dL_law_381 (v := 0) rfl ?_
            refine j_callQS (pc := 382) (κ := ks9 κ 14) (κ1 := ks9 κ 15) (c := 1) C rfl dL_law_382 ls_L_160 rfl (Nat.le_of_ble_eq_true rfl) (Nat.le_of_ble_eq_true rfl) (by decide) (ks_add rfl) (lq_le hk (by omega)) (fun l hl o ho => sp_L_call hl ho) (fun v74 M73 => ?_)
            refine j_iload (pc := 385) C dL_law_385 rfl ?_
            refine j_iload (pc := 387) C dL_law_387 rfl ?_
            refine j_iadd (pc := 389) C dL_law_389 ?_
            refine j_icmp_ne (pc := 390) C dL_law_390 (tgt := 506) (by decide) (fun hc81 => ?_) (fun hc81 => ?_)
            · refine j_loc [13, 14, 15, 16, 17] rfl ?_
              exact t_L_law_b506 (κ := ks9 κ 15) C g62 h62 (lq_st hk (by omega)) x1 x2 x4 x5 M73
            · refine j_aload_n (pc := 393) C dL_law_393 rfl ?_
              refine j_iconst (pc := 394) C dL_law_394 (v := 2) rfl ?_
              refine j_iconst (pc := 395) C dL_law_395 (v := 2) rfl ?_
              refine j_iconst (pc := 396) C dL_law_396 (v := 0) rfl ?_
              refine j_iconst (pc := 397) C dL_law_397 (v := 0) rfl ?_
              refine j_callQS (pc := 398) (κ := ks9 κ 15) (κ1 := ks9 κ 16) (c := 1) C rfl dL_law_398 ls_L_160 rfl (Nat.le_of_ble_eq_true rfl) (Nat.le_of_ble_eq_true rfl) (by decide) (ks_add rfl) (lq_le hk (by omega)) (fun l hl o ho => sp_L_call hl ho) (fun v76 M75 => ?_)
              refine j_iload (pc := 401) C dL_law_401 rfl ?_
              refine j_icmp_ne (pc := 403) C dL_law_403 (tgt := 506) (by decide) (fun hc80 => ?_) (fun hc80 => ?_)
              · refine j_loc [13, 14, 15, 16, 17] rfl ?_
                exact t_L_law_b506 (κ := ks9 κ 16) C g62 h62 (lq_st hk (by omega)) x1 x2 x4 x5 M75
              · refine j_aload_n (pc := 406) C dL_law_406 rfl ?_
                refine j_iconst (pc := 407) C dL_law_407 (v := 3) rfl ?_
                refine j_iload (pc := 408) C dL_law_408 rfl ?_
                refine j_iconst (pc := 410) C dL_law_410 (v := 0) rfl ?_
                refine j_iconst (pc := 411) C dL_law_411 (v := 0) rfl ?_
                refine j_callQS (pc := 412) (κ := ks9 κ 16) (κ1 := ks9 κ 17) (c := 1) C rfl dL_law_412 ls_L_160 rfl (Nat.le_of_ble_eq_true rfl) (Nat.le_of_ble_eq_true rfl) (by decide) (ks_add rfl) (lq_le hk (by omega)) (fun l hl o ho => sp_L_call hl ho) (fun v78 M77 => ?_)
                refine j_if_ne (pc := 415) C dL_law_415 (tgt := 422) (by decide) (fun hc79 => ?_) (fun hc79 => ?_)
                · refine j_iconst (pc := 422) C dL_law_422 (v := 0) rfl ?_
                  refine j_loc [13, 14, 15, 16, 17, 18, 10, 9, 4, 0] rfl ?_
                  exact t_L_law_b423 (κ := ks9 κ 17) C g62 h62 (lq_st hk (by omega)) x1 x2 x4 x5 x6 v43 y46 v56 v64 (0 : Int32) M77
                · refine j_iconst (pc := 418) C dL_law_418 (v := 1) rfl ?_
                  refine j_goto (pc := 419) C dL_law_419 (tgt := 423) (by decide) ?_
                  refine j_loc [13, 14, 15, 16, 17, 18, 10, 9, 4, 0] rfl ?_
                  exact t_L_law_b423 (κ := ks9 κ 17) C g62 h62 (lq_st hk (by omega)) x1 x2 x4 x5 x6 v43 y46 v56 v64 (1 : Int32) M77
def f_L_law_b169 (z : Sh9) (L : Nat) (xs : Nat → Int32) (r62 : Nat → Nat → Int32 → Int32 → Int32 → Mem9 → Re9) (x1 : Nat) (x2 : Nat) (x4 : Int32) (x5 : Int32) (x6 : Int32) (M : Mem9) : Re9 :=
  (f_L_law_b170 z L xs r62 x1 x2 x4 x5 x6 (0 : Int32) M)
set_option maxRecDepth 20000 in
set_option maxHeartbeats 4000000 in
theorem t_L_law_b169 {z : Sh9} {sb L : Nat} {xs : Nat → Int32} {D : va_G} {ca : Nat → ClassId} {X : Cx9} {out : Out9 × Mem9} {cm : Ka9} {κ : Ka9} (C : OK9 z (sb, L, xs, D, ca) X out 20 cm cL_law RL 13 2 []) {E62 : Nat} {r62 : Nat → Nat → Int32 → Int32 → Int32 → Mem9 → Re9} (g62 : 0 ≤ E62) (h62 : ∀ κ2 : Ka9, lq9 κ2 E62 cm → ∀ (x1 : Nat) (x2 : Nat) (x3 : Int32) (x4 : Int32) (x5 : Int32) (M : Mem9), J9 z (sb, L, xs, D, ca) X out 20 62 [(0, .ref sb), (1, .ref x1), (2, .ref x2), (3, .int x3), (4, .int x4), (5, .int x5)] [] M κ2 (r62 x1 x2 x3 x4 x5 M)) (hk : lq9 κ (50 + E62) cm) (x1 : Nat) (x2 : Nat) (x4 : Int32) (x5 : Int32) (x6 : Int32) (M : Mem9) : J9 z (sb, L, xs, D, ca) X out 20 169 [(0, .ref sb), (1, .ref x1), (2, .ref x2), (4, .int x4), (5, .int x5), (6, .int x6)] [] M κ (f_L_law_b169 z L xs r62 x1 x2 x4 x5 x6 M) := by
  refine j_ks0 ?_
  refine j_iconst (pc := 169) C dL_law_169 (v := 0) rfl ?_
  exact t_L_law_b170 (κ := ks9 κ 0) C g62 h62 (lq_st hk (by omega)) x1 x2 x4 x5 x6 (0 : Int32) M
def f_L_law_b165 (z : Sh9) (L : Nat) (xs : Nat → Int32) (r62 : Nat → Nat → Int32 → Int32 → Int32 → Mem9 → Re9) (x1 : Nat) (x2 : Nat) (x4 : Int32) (x5 : Int32) (x6 : Int32) (M : Mem9) : Re9 :=
  (f_L_law_b170 z L xs r62 x1 x2 x4 x5 x6 (1 : Int32) M)
set_option maxRecDepth 20000 in
set_option maxHeartbeats 4000000 in
theorem t_L_law_b165 {z : Sh9} {sb L : Nat} {xs : Nat → Int32} {D : va_G} {ca : Nat → ClassId} {X : Cx9} {out : Out9 × Mem9} {cm : Ka9} {κ : Ka9} (C : OK9 z (sb, L, xs, D, ca) X out 20 cm cL_law RL 13 2 []) {E62 : Nat} {r62 : Nat → Nat → Int32 → Int32 → Int32 → Mem9 → Re9} (g62 : 0 ≤ E62) (h62 : ∀ κ2 : Ka9, lq9 κ2 E62 cm → ∀ (x1 : Nat) (x2 : Nat) (x3 : Int32) (x4 : Int32) (x5 : Int32) (M : Mem9), J9 z (sb, L, xs, D, ca) X out 20 62 [(0, .ref sb), (1, .ref x1), (2, .ref x2), (3, .int x3), (4, .int x4), (5, .int x5)] [] M κ2 (r62 x1 x2 x3 x4 x5 M)) (hk : lq9 κ (50 + E62) cm) (x1 : Nat) (x2 : Nat) (x4 : Int32) (x5 : Int32) (x6 : Int32) (M : Mem9) : J9 z (sb, L, xs, D, ca) X out 20 165 [(0, .ref sb), (1, .ref x1), (2, .ref x2), (4, .int x4), (5, .int x5), (6, .int x6)] [] M κ (f_L_law_b165 z L xs r62 x1 x2 x4 x5 x6 M) := by
  refine j_ks0 ?_
  refine j_iconst (pc := 165) C dL_law_165 (v := 1) rfl ?_
  refine j_goto (pc := 166) C dL_law_166 (tgt := 170) (by decide) ?_
  exact t_L_law_b170 (κ := ks9 κ 0) C g62 h62 (lq_st hk (by omega)) x1 x2 x4 x5 x6 (1 : Int32) M
def f_L_law_b62 (z : Sh9) (L : Nat) (xs : Nat → Int32) (r62 : Nat → Nat → Int32 → Int32 → Int32 → Mem9 → Re9) (x1 : Nat) (x2 : Nat) (x3 : Int32) (x4 : Int32) (x5 : Int32) (M : Mem9) : Re9 :=
  (if x4 ≤ x5 then (rz9 x3 M) else (if x3 = 0 then (rz9 x3 M) else (bi9 (f_L_cell z L xs ((1 : Int32) + x5) M) fun v12 M11 => (bi9 (f_L_act z x1 v12 M11) fun v14 M13 => ((rm9 v12 (100000 : Int32)).bind fun v15 => (bi9 (f_L_refuses z x2 v15 M13) fun v17 M16 => (if v17 = 0 then (f_L_law_b169 z L xs r62 x1 x2 x4 x5 v12 M16) else (bi9 (f_L_act z x2 v12 M16) fun v19 M18 => (if v19 = v14 then ((rm9 v12 (1000 : Int32)).bind fun v20 => (bi9 (f_L_refuses z x2 v20 M18) fun v22 M21 => (if v22 = 0 then (f_L_law_b169 z L xs r62 x1 x2 x4 x5 v12 M21) else ((rm9 v12 (5000 : Int32)).bind fun v23 => (bi9 (f_L_alike z x1 x2 v23 M21) fun v25 M24 => (if v25 = 0 then (f_L_law_b169 z L xs r62 x1 x2 x4 x5 v12 M24) else ((rm9 x5 (2 : Int32)).bind fun v26 => (if v26 = 0 then (bi9 (f_L_holds z x1 M24) fun v31 M30 => (if v31 = 0 then (f_L_law_b169 z L xs r62 x1 x2 x4 x5 v12 M30) else (f_L_law_b165 z L xs r62 x1 x2 x4 x5 v12 M30))) else (bi9 (f_L_holds z x2 M24) fun v28 M27 => (if v28 = 0 then (f_L_law_b169 z L xs r62 x1 x2 x4 x5 v12 M27) else (f_L_law_b165 z L xs r62 x1 x2 x4 x5 v12 M27))))))))))) else (f_L_law_b169 z L xs r62 x1 x2 x4 x5 v12 M18))))))))))
set_option maxRecDepth 20000 in
set_option maxHeartbeats 4000000 in
theorem t_L_law_b62 {z : Sh9} {sb L : Nat} {xs : Nat → Int32} {D : va_G} {ca : Nat → ClassId} {X : Cx9} {out : Out9 × Mem9} {cm : Ka9} {κ : Ka9} (C : OK9 z (sb, L, xs, D, ca) X out 20 cm cL_law RL 13 2 []) {E62 : Nat} {r62 : Nat → Nat → Int32 → Int32 → Int32 → Mem9 → Re9} (g62 : 0 ≤ E62) (h62 : ∀ κ2 : Ka9, lq9 κ2 E62 cm → ∀ (x1 : Nat) (x2 : Nat) (x3 : Int32) (x4 : Int32) (x5 : Int32) (M : Mem9), J9 z (sb, L, xs, D, ca) X out 20 62 [(0, .ref sb), (1, .ref x1), (2, .ref x2), (3, .int x3), (4, .int x4), (5, .int x5)] [] M κ2 (r62 x1 x2 x3 x4 x5 M)) (hk : lq9 κ (7327 + E62) cm) (x1 : Nat) (x2 : Nat) (x3 : Int32) (x4 : Int32) (x5 : Int32) (M : Mem9) : J9 z (sb, L, xs, D, ca) X out 20 62 [(0, .ref sb), (1, .ref x1), (2, .ref x2), (3, .int x3), (4, .int x4), (5, .int x5)] [] M κ (f_L_law_b62 z L xs r62 x1 x2 x3 x4 x5 M) := by
  refine j_ks0 ?_
  refine j_iload (pc := 62) C dL_law_62 rfl ?_
  refine j_iload (pc := 64) C dL_law_64 rfl ?_
  refine j_icmp_ge (pc := 66) C dL_law_66 (tgt := 514) (by decide) (fun hc39 => ?_) (fun hc39 => ?_)
  · refine j_iload_n (pc := 514) C dL_law_514 rfl ?_
    exact j_zreturn (pc := 515) C rfl dL_law_515 (lq_end hk (by omega))
  · refine j_iload_n (pc := 69) C dL_law_69 rfl ?_
    refine j_if_eq (pc := 70) C dL_law_70 (tgt := 514) (by decide) (fun hc38 => ?_) (fun hc38 => ?_)
    · refine j_iload_n (pc := 514) C dL_law_514 rfl ?_
      exact j_zreturn (pc := 515) C rfl dL_law_515 (lq_end hk (by omega))
    · refine j_aload_n (pc := 73) C dL_law_73 rfl ?_
      refine j_iconst (pc := 74) C dL_law_74 (v := 1) rfl ?_
      refine j_iload (pc := 75) C dL_law_75 rfl ?_
      refine j_iadd (pc := 77) C dL_law_77 ?_
      refine j_callQS (pc := 78) (κ := ks9 κ 0) (κ1 := ks9 κ 0) (c := 0) C rfl dL_law_78 ls_L_183 rfl (Nat.le_of_ble_eq_true rfl) (Nat.le_of_ble_eq_true rfl) (by decide) (ks_add rfl) (lq_le hk (by omega)) (fun l hl o ho => sp_L_cell hl ho) (fun v12 M11 => ?_)
      refine j_istore (pc := 81) C dL_law_81 (Nat.le_of_ble_eq_true rfl) (ls' := [(6, .int v12), (0, .ref sb), (1, .ref x1), (2, .ref x2), (3, .int x3), (4, .int x4), (5, .int x5)]) rfl ?_
      refine j_aload_n (pc := 83) C dL_law_83 rfl ?_
      refine j_iload (pc := 84) C dL_law_84 rfl ?_
      refine j_callQS (pc := 86) (κ := ks9 κ 0) (κ1 := ks9 κ 2) (c := 2) C rfl dL_law_86 ls_L_187 rfl (Nat.le_of_ble_eq_true rfl) (Nat.le_of_ble_eq_true rfl) (by decide) (ks_add rfl) (lq_le hk (by omega)) (fun l hl o ho => sp_L_act hl ho) (fun v14 M13 => ?_)
      refine j_istore (pc := 89) C dL_law_89 (Nat.le_of_ble_eq_true rfl) (ls' := [(7, .int v14), (6, .int v12), (0, .ref sb), (1, .ref x1), (2, .ref x2), (3, .int x3), (4, .int x4), (5, .int x5)]) rfl ?_
      refine j_aload_n (pc := 91) C dL_law_91 rfl ?_
      refine j_iload (pc := 92) C dL_law_92 rfl ?_
      refine j_ldc (pc := 94) C dL_law_94 (v := 100000) w9_738 ?_
      refine j_irem (pc := 96) C dL_law_96 (fun v15 => ?_)
      refine j_callQS (pc := 97) (κ := ks9 κ 2) (κ1 := ks9 κ 32) (c := 30) C rfl dL_law_97 ls_L_191 rfl (Nat.le_of_ble_eq_true rfl) (Nat.le_of_ble_eq_true rfl) (by decide) (ks_add rfl) (lq_le hk (by omega)) (fun l hl o ho => sp_L_refuses hl ho) (fun v17 M16 => ?_)
      refine j_if_eq (pc := 100) C dL_law_100 (tgt := 169) (by decide) (fun hc37 => ?_) (fun hc37 => ?_)
      · refine j_loc [2, 3, 4, 6, 7, 1] rfl ?_
        exact t_L_law_b169 (κ := ks9 κ 32) C g62 h62 (lq_st hk (by omega)) x1 x2 x4 x5 v12 M16
      · refine j_aload_n (pc := 103) C dL_law_103 rfl ?_
        refine j_iload (pc := 104) C dL_law_104 rfl ?_
        refine j_callQS (pc := 106) (κ := ks9 κ 32) (κ1 := ks9 κ 34) (c := 2) C rfl dL_law_106 ls_L_187 rfl (Nat.le_of_ble_eq_true rfl) (Nat.le_of_ble_eq_true rfl) (by decide) (ks_add rfl) (lq_le hk (by omega)) (fun l hl o ho => sp_L_act hl ho) (fun v19 M18 => ?_)
        refine j_iload (pc := 109) C dL_law_109 rfl ?_
        refine j_icmp_ne (pc := 111) C dL_law_111 (tgt := 169) (by decide) (fun hc36 => ?_) (fun hc36 => ?_)
        · refine j_loc [2, 3, 4, 6, 7, 1] rfl ?_
          exact t_L_law_b169 (κ := ks9 κ 34) C g62 h62 (lq_st hk (by omega)) x1 x2 x4 x5 v12 M18
        · refine j_aload_n (pc := 114) C dL_law_114 rfl ?_
          refine j_iload (pc := 115) C dL_law_115 rfl ?_
          refine j_sipush (pc := 117) C dL_law_117 (v := 1000) rfl ?_
          refine j_irem (pc := 120) C dL_law_120 (fun v20 => ?_)
          refine j_callQS (pc := 121) (κ := ks9 κ 34) (κ1 := ks9 κ 64) (c := 30) C rfl dL_law_121 ls_L_191 rfl (Nat.le_of_ble_eq_true rfl) (Nat.le_of_ble_eq_true rfl) (by decide) (ks_add rfl) (lq_le hk (by omega)) (fun l hl o ho => sp_L_refuses hl ho) (fun v22 M21 => ?_)
          refine j_if_eq (pc := 124) C dL_law_124 (tgt := 169) (by decide) (fun hc35 => ?_) (fun hc35 => ?_)
          · refine j_loc [2, 3, 4, 6, 7, 1] rfl ?_
            exact t_L_law_b169 (κ := ks9 κ 64) C g62 h62 (lq_st hk (by omega)) x1 x2 x4 x5 v12 M21
          · refine j_aload_n (pc := 127) C dL_law_127 rfl ?_
            refine j_aload_n (pc := 128) C dL_law_128 rfl ?_
            refine j_iload (pc := 129) C dL_law_129 rfl ?_
            refine j_sipush (pc := 131) C dL_law_131 (v := 5000) rfl ?_
            refine j_irem (pc := 134) C dL_law_134 (fun v23 => ?_)
            refine j_callQS (pc := 135) (κ := ks9 κ 64) (κ1 := ks9 κ 4227) (c := 4163) C rfl dL_law_135 ls_L_195 rfl (Nat.le_of_ble_eq_true rfl) (Nat.le_of_ble_eq_true rfl) (by decide) (ks_add rfl) (lq_le hk (by omega)) (fun l hl o ho => sp_L_alike hl ho) (fun v25 M24 => ?_)
            refine j_if_eq (pc := 138) C dL_law_138 (tgt := 169) (by decide) (fun hc34 => ?_) (fun hc34 => ?_)
            · refine j_loc [2, 3, 4, 6, 7, 1] rfl ?_
              exact t_L_law_b169 (κ := ks9 κ 4227) C g62 h62 (lq_st hk (by omega)) x1 x2 x4 x5 v12 M24
            · refine j_iload (pc := 141) C dL_law_141 rfl ?_
              refine j_iconst (pc := 143) C dL_law_143 (v := 2) rfl ?_
              refine j_irem (pc := 144) C dL_law_144 (fun v26 => ?_)
              refine j_if_ne (pc := 145) C dL_law_145 (tgt := 158) (by decide) (fun hc33 => ?_) (fun hc33 => ?_)
              · refine j_aload_n (pc := 158) C dL_law_158 rfl ?_
                refine j_callQS (pc := 159) (κ := ks9 κ 4227) (κ1 := ks9 κ 7277) (c := 3050) C rfl dL_law_159 ls_L_199 rfl (Nat.le_of_ble_eq_true rfl) (Nat.le_of_ble_eq_true rfl) (by decide) (ks_add rfl) (lq_le hk (by omega)) (fun l hl o ho => sp_L_holds hl ho) (fun v28 M27 => ?_)
                refine j_if_eq (pc := 162) C dL_law_162 (tgt := 169) (by decide) (fun hc29 => ?_) (fun hc29 => ?_)
                · refine j_loc [2, 3, 4, 6, 7, 1] rfl ?_
                  exact t_L_law_b169 (κ := ks9 κ 7277) C g62 h62 (lq_st hk (by omega)) x1 x2 x4 x5 v12 M27
                · refine j_loc [2, 3, 4, 6, 7, 1] rfl ?_
                  exact t_L_law_b165 (κ := ks9 κ 7277) C g62 h62 (lq_st hk (by omega)) x1 x2 x4 x5 v12 M27
              · refine j_aload_n (pc := 148) C dL_law_148 rfl ?_
                refine j_callQS (pc := 149) (κ := ks9 κ 4227) (κ1 := ks9 κ 7277) (c := 3050) C rfl dL_law_149 ls_L_199 rfl (Nat.le_of_ble_eq_true rfl) (Nat.le_of_ble_eq_true rfl) (by decide) (ks_add rfl) (lq_le hk (by omega)) (fun l hl o ho => sp_L_holds hl ho) (fun v31 M30 => ?_)
                refine j_if_eq (pc := 152) C dL_law_152 (tgt := 169) (by decide) (fun hc32 => ?_) (fun hc32 => ?_)
                · refine j_loc [2, 3, 4, 6, 7, 1] rfl ?_
                  exact t_L_law_b169 (κ := ks9 κ 7277) C g62 h62 (lq_st hk (by omega)) x1 x2 x4 x5 v12 M30
                · refine j_goto (pc := 155) C dL_law_155 (tgt := 165) (by decide) ?_
                  refine j_loc [2, 3, 4, 6, 7, 1] rfl ?_
                  exact t_L_law_b165 (κ := ks9 κ 7277) C g62 h62 (lq_st hk (by omega)) x1 x2 x4 x5 v12 M30
theorem t_L_law_l62 {z : Sh9} {sb L : Nat} {xs : Nat → Int32} {D : va_G} {ca : Nat → ClassId} {X : Cx9} {out : Out9 × Mem9} {cm : Ka9} (C : OK9 z (sb, L, xs, D, ca) X out 20 cm cL_law RL 13 2 [])  : ∀ (n : Nat) (κ : Ka9), lq9 κ (n * 7327 + (0)) cm → ∀ (x1 : Nat) (x2 : Nat) (x3 : Int32) (x4 : Int32) (x5 : Int32) (M : Mem9), J9 z (sb, L, xs, D, ca) X out 20 62 [(0, .ref sb), (1, .ref x1), (2, .ref x2), (3, .int x3), (4, .int x4), (5, .int x5)] [] M κ (fx9 (fun _ _ _ _ _ _ => none) (f_L_law_b62 z L xs ) n x1 x2 x3 x4 x5 M) := by
  intro n
  induction n with
  | zero => intro κ hk x1 x2 x3 x4 x5 M; exact j_none
  | succ n ih =>
    intro κ hk x1 x2 x3 x4 x5 M
    exact t_L_law_b62 (κ := κ) C  (E62 := n * 7327 + (0)) (by omega) ih (lq_mo hk (by omega)) x1 x2 x3 x4 x5 M
def f_L_law_b45 (z : Sh9) (L : Nat) (xs : Nat → Int32)  (x1 : Nat) (x2 : Nat) (s0 : Int32) (M : Mem9) : Re9 :=
  (bi9 (f_L_cell z L xs (0 : Int32) M) fun v8 M7 => ((rm9 v8 (17 : Int32)).bind fun v9 => (nm9 ((8 : Int32) + v9) fun (y10 : Int32) => (fx9 (fun _ _ _ _ _ _ => none) (f_L_law_b62 z L xs ) 26 x1 x2 s0 y10 (0 : Int32) M7))))
set_option maxRecDepth 20000 in
set_option maxHeartbeats 4000000 in
theorem t_L_law_b45 {z : Sh9} {sb L : Nat} {xs : Nat → Int32} {D : va_G} {ca : Nat → ClassId} {X : Cx9} {out : Out9 × Mem9} {cm : Ka9} {κ : Ka9} (C : OK9 z (sb, L, xs, D, ca) X out 20 cm cL_law RL 13 2 [])  (hk : lq9 κ (190502) cm) (x1 : Nat) (x2 : Nat) (s0 : Int32) (M : Mem9) : J9 z (sb, L, xs, D, ca) X out 20 45 [(0, .ref sb), (1, .ref x1), (2, .ref x2)] [.int s0] M κ (f_L_law_b45 z L xs  x1 x2 s0 M) := by
  refine j_ks0 ?_
  refine j_istore_n (pc := 45) C dL_law_45 (Nat.le_of_ble_eq_true rfl) (ls' := [(3, .int s0), (0, .ref sb), (1, .ref x1), (2, .ref x2)]) rfl ?_
  refine j_bipush (pc := 46) C dL_law_46 (v := 8) rfl ?_
  refine j_aload_n (pc := 48) C dL_law_48 rfl ?_
  refine j_iconst (pc := 49) C dL_law_49 (v := 0) rfl ?_
  refine j_callQS (pc := 50) (κ := ks9 κ 0) (κ1 := ks9 κ 0) (c := 0) C rfl dL_law_50 ls_L_183 rfl (Nat.le_of_ble_eq_true rfl) (Nat.le_of_ble_eq_true rfl) (by decide) (ks_add rfl) (lq_le hk (by omega)) (fun l hl o ho => sp_L_cell hl ho) (fun v8 M7 => ?_)
  refine j_bipush (pc := 53) C dL_law_53 (v := 17) rfl ?_
  refine j_irem (pc := 55) C dL_law_55 (fun v9 => ?_)
  refine j_iadd (pc := 56) C dL_law_56 ?_
  refine j_nm (st' := fun x9 : Int32 => .int x9 :: []) rfl (fun y10 => ?_)
  refine j_istore (pc := 57) C dL_law_57 (Nat.le_of_ble_eq_true rfl) (ls' := [(4, .int y10), (3, .int s0), (0, .ref sb), (1, .ref x1), (2, .ref x2)]) rfl ?_
  refine j_iconst (pc := 59) C dL_law_59 (v := 0) rfl ?_
  refine j_istore (pc := 60) C dL_law_60 (Nat.le_of_ble_eq_true rfl) (ls' := [(5, .int (0 : Int32)), (4, .int y10), (3, .int s0), (0, .ref sb), (1, .ref x1), (2, .ref x2)]) rfl ?_
  refine j_loc [3, 4, 5, 2, 1, 0] rfl ?_
  exact t_L_law_l62 C  26 (ks9 κ 0) (lq_st hk (by omega)) x1 x2 s0 y10 (0 : Int32) M7
def f_L_law_b44 (z : Sh9) (L : Nat) (xs : Nat → Int32)  (x1 : Nat) (x2 : Nat) (M : Mem9) : Re9 :=
  (f_L_law_b45 z L xs  x1 x2 (0 : Int32) M)
set_option maxRecDepth 20000 in
set_option maxHeartbeats 4000000 in
theorem t_L_law_b44 {z : Sh9} {sb L : Nat} {xs : Nat → Int32} {D : va_G} {ca : Nat → ClassId} {X : Cx9} {out : Out9 × Mem9} {cm : Ka9} {κ : Ka9} (C : OK9 z (sb, L, xs, D, ca) X out 20 cm cL_law RL 13 2 [])  (hk : lq9 κ (190502) cm) (x1 : Nat) (x2 : Nat) (M : Mem9) : J9 z (sb, L, xs, D, ca) X out 20 44 [(0, .ref sb), (1, .ref x1), (2, .ref x2)] [] M κ (f_L_law_b44 z L xs  x1 x2 M) := by
  refine j_ks0 ?_
  refine j_iconst (pc := 44) C dL_law_44 (v := 0) rfl ?_
  exact t_L_law_b45 (κ := ks9 κ 0) C  (lq_st hk (by omega)) x1 x2 (0 : Int32) M
def f_L_law_b16 (z : Sh9) (L : Nat) (xs : Nat → Int32)  (x1 : Nat) (x2 : Nat) (M : Mem9) : Re9 :=
  (bi9 (f_L_call z x1 (7 : Int32) (0 : Int32) (0 : Int32) (0 : Int32) M) fun v2 M1 => (if v2 = 0 then (bi9 (f_L_call z x2 (7 : Int32) (0 : Int32) (0 : Int32) (0 : Int32) M1) fun v4 M3 => (if v4 = 0 then (f_L_law_b45 z L xs  x1 x2 (1 : Int32) M3) else (f_L_law_b44 z L xs  x1 x2 M3))) else (f_L_law_b44 z L xs  x1 x2 M1)))
set_option maxRecDepth 20000 in
set_option maxHeartbeats 4000000 in
theorem t_L_law_b16 {z : Sh9} {sb L : Nat} {xs : Nat → Int32} {D : va_G} {ca : Nat → ClassId} {X : Cx9} {out : Out9 × Mem9} {cm : Ka9} {κ : Ka9} (C : OK9 z (sb, L, xs, D, ca) X out 20 cm cL_law RL 13 2 [])  (hk : lq9 κ (190504) cm) (x1 : Nat) (x2 : Nat) (M : Mem9) : J9 z (sb, L, xs, D, ca) X out 20 16 [(0, .ref sb), (1, .ref x1), (2, .ref x2)] [] M κ (f_L_law_b16 z L xs  x1 x2 M) := by
  refine j_ks0 ?_
  refine j_aload_n (pc := 16) C dL_law_16 rfl ?_
  refine j_bipush (pc := 17) C dL_law_17 (v := 7) rfl ?_
  refine j_iconst (pc := 19) C dL_law_19 (v := 0) rfl ?_
  refine j_iconst (pc := 20) C dL_law_20 (v := 0) rfl ?_
  refine j_iconst (pc := 21) C dL_law_21 (v := 0) rfl ?_
  refine j_callQS (pc := 22) (κ := ks9 κ 0) (κ1 := ks9 κ 1) (c := 1) C rfl dL_law_22 ls_L_160 rfl (Nat.le_of_ble_eq_true rfl) (Nat.le_of_ble_eq_true rfl) (by decide) (ks_add rfl) (lq_le hk (by omega)) (fun l hl o ho => sp_L_call hl ho) (fun v2 M1 => ?_)
  refine j_if_ne (pc := 25) C dL_law_25 (tgt := 44) (by decide) (fun hc6 => ?_) (fun hc6 => ?_)
  · exact t_L_law_b44 (κ := ks9 κ 1) C  (lq_st hk (by omega)) x1 x2 M1
  · refine j_aload_n (pc := 28) C dL_law_28 rfl ?_
    refine j_bipush (pc := 29) C dL_law_29 (v := 7) rfl ?_
    refine j_iconst (pc := 31) C dL_law_31 (v := 0) rfl ?_
    refine j_iconst (pc := 32) C dL_law_32 (v := 0) rfl ?_
    refine j_iconst (pc := 33) C dL_law_33 (v := 0) rfl ?_
    refine j_callQS (pc := 34) (κ := ks9 κ 1) (κ1 := ks9 κ 2) (c := 1) C rfl dL_law_34 ls_L_160 rfl (Nat.le_of_ble_eq_true rfl) (Nat.le_of_ble_eq_true rfl) (by decide) (ks_add rfl) (lq_le hk (by omega)) (fun l hl o ho => sp_L_call hl ho) (fun v4 M3 => ?_)
    refine j_if_ne (pc := 37) C dL_law_37 (tgt := 44) (by decide) (fun hc5 => ?_) (fun hc5 => ?_)
    · exact t_L_law_b44 (κ := ks9 κ 2) C  (lq_st hk (by omega)) x1 x2 M3
    · refine j_iconst (pc := 40) C dL_law_40 (v := 1) rfl ?_
      refine j_goto (pc := 41) C dL_law_41 (tgt := 45) (by decide) ?_
      exact t_L_law_b45 (κ := ks9 κ 2) C  (lq_st hk (by omega)) x1 x2 (1 : Int32) M3

/-! THE LAW'S CASES -/
theorem inR_s {j Ls : Nat} {o : Int} (h : 0 ≤ o ∧ 4 * (j : Int) + o < Ls) (h2 : Ls ≤ 2048) : inR ((4 * j : Nat) + o) Ls := by
  unfold inR
  rw [w32_of (by omega) (by omega)]
  omega
theorem i32_of (x : Int32) : I32 x.toInt := ⟨Int32.le_toInt x, Int32.toInt_lt x⟩
theorem w32_k0 {k : Int} (h : 0 ≤ k ∧ k ≤ 3) (z : w32 k = 0) : k = 0 := by
  rw [w32_of (by omega) (by omega)] at z
  exact z
theorem um_law_109 : Cond.methodLink RL 109 yL_token ∈ uw := uw_mem 555 (by decide +kernel) rfl
theorem um_law_114 : Cond.methodLink RL 114 yX12_token ∈ uw := uw_mem 2071 (by decide +kernel) rfl
theorem um_law_115 : Cond.methodLink RL 115 yX12_thrown ∈ uw := uw_mem 1895 (by decide +kernel) rfl
theorem um_law_119 : Cond.methodLink RL 119 yX11_wipe ∈ uw := uw_mem 490 (by decide +kernel) rfl
theorem um_law_122 : Cond.methodLink RL 122 yX12_wipe ∈ uw := uw_mem 2078 (by decide +kernel) rfl
theorem um_law_123 : Cond.methodLink RL 123 yL_act ∈ uw := uw_mem 658 (by decide +kernel) rfl
theorem um_law_126 : Cond.methodLink RL 126 yX12_act ∈ uw := uw_mem 2082 (by decide +kernel) rfl
theorem um_law_127 : Cond.methodLink RL 127 yL_protect ∈ uw := uw_mem 666 (by decide +kernel) rfl
theorem um_law_129 : Cond.methodLink RL 129 yX12_protect ∈ uw := uw_mem 2086 (by decide +kernel) rfl
theorem um_law_130 : Cond.methodLink RL 130 yL_create ∈ uw := uw_mem 700 (by decide +kernel) rfl
theorem um_law_132 : Cond.methodLink RL 132 yX12_create ∈ uw := uw_mem 2094 (by decide +kernel) rfl
theorem um_law_133 : Cond.methodLink RL 133 yL_edit ∈ uw := uw_mem 885 (by decide +kernel) rfl
theorem um_law_136 : Cond.methodLink RL 136 yX12_edit ∈ uw := uw_mem 2118 (by decide +kernel) rfl
theorem um_law_137 : Cond.methodLink RL 137 yL_undo ∈ uw := uw_mem 1214 (by decide +kernel) rfl
theorem um_law_139 : Cond.methodLink RL 139 yX12_undo ∈ uw := uw_mem 2163 (by decide +kernel) rfl
theorem um_law_140 : Cond.methodLink RL 140 yL_bringIn ∈ uw := uw_mem 1223 (by decide +kernel) rfl
theorem um_law_142 : Cond.methodLink RL 142 yX12_bringIn ∈ uw := uw_mem 2179 (by decide +kernel) rfl
theorem um_law_143 : Cond.methodLink RL 143 yL_move ∈ uw := uw_mem 1232 (by decide +kernel) rfl
theorem um_law_145 : Cond.methodLink RL 145 yX12_move ∈ uw := uw_mem 2183 (by decide +kernel) rfl
theorem um_law_146 : Cond.methodLink RL 146 yL_moveTree ∈ uw := uw_mem 1256 (by decide +kernel) rfl
theorem um_law_148 : Cond.methodLink RL 148 yX12_moveTree ∈ uw := uw_mem 2191 (by decide +kernel) rfl
theorem um_law_149 : Cond.methodLink RL 149 yL_approve ∈ uw := uw_mem 1291 (by decide +kernel) rfl
theorem um_law_151 : Cond.methodLink RL 151 yX12_approve ∈ uw := uw_mem 2202 (by decide +kernel) rfl
theorem um_law_152 : Cond.methodLink RL 152 yL_translate ∈ uw := uw_mem 1319 (by decide +kernel) rfl
theorem um_law_154 : Cond.methodLink RL 154 yX12_translate ∈ uw := uw_mem 2206 (by decide +kernel) rfl
theorem um_law_155 : Cond.methodLink RL 155 yL_instruct ∈ uw := uw_mem 1327 (by decide +kernel) rfl
theorem um_law_157 : Cond.methodLink RL 157 yX12_instruct ∈ uw := uw_mem 2210 (by decide +kernel) rfl
theorem um_law_158 : Cond.methodLink RL 158 yL_empty ∈ uw := uw_mem 1351 (by decide +kernel) rfl
theorem um_law_160 : Cond.methodLink RL 160 yX12_empty ∈ uw := uw_mem 2214 (by decide +kernel) rfl
theorem um_law_161 : Cond.methodLink RL 161 yL_rank ∈ uw := uw_mem 1358 (by decide +kernel) rfl
theorem um_law_163 : Cond.methodLink RL 163 yX12_rank ∈ uw := uw_mem 2218 (by decide +kernel) rfl
theorem um_law_164 : Cond.methodLink RL 164 yL_work ∈ uw := uw_mem 1365 (by decide +kernel) rfl
theorem um_law_166 : Cond.methodLink RL 166 yX12_work ∈ uw := uw_mem 1899 (by decide +kernel) rfl
theorem um_law_167 : Cond.methodLink RL 167 yL_read ∈ uw := uw_mem 1543 (by decide +kernel) rfl
theorem um_law_170 : Cond.methodLink RL 170 yX12_read ∈ uw := uw_mem 2063 (by decide +kernel) rfl
theorem um_law_171 : Cond.methodLink RL 171 yX11_clock ∈ uw := uw_mem 498 (by decide +kernel) rfl
theorem um_law_174 : Cond.methodLink RL 174 yX12_clock ∈ uw := uw_mem 2222 (by decide +kernel) rfl
theorem um_law_175 : Cond.methodLink RL 175 yL_versions ∈ uw := uw_mem 1550 (by decide +kernel) rfl
theorem um_law_177 : Cond.methodLink RL 177 yX12_versions ∈ uw := uw_mem 2226 (by decide +kernel) rfl
theorem um_law_178 : Cond.methodLink RL 178 yL_versionAt ∈ uw := uw_mem 1558 (by decide +kernel) rfl
theorem um_law_180 : Cond.methodLink RL 180 yX12_versionAt ∈ uw := uw_mem 2238 (by decide +kernel) rfl
theorem um_law_181 : Cond.methodLink RL 181 yL_tokenAt ∈ uw := uw_mem 1565 (by decide +kernel) rfl
theorem um_law_183 : Cond.methodLink RL 183 yX12_tokenAt ∈ uw := uw_mem 2242 (by decide +kernel) rfl
theorem um_law_184 : Cond.methodLink RL 184 yL_leads ∈ uw := uw_mem 1578 (by decide +kernel) rfl
theorem um_law_186 : Cond.methodLink RL 186 yX12_leads ∈ uw := uw_mem 2250 (by decide +kernel) rfl
theorem um_law_187 : Cond.methodLink RL 187 yL_isStale ∈ uw := uw_mem 1585 (by decide +kernel) rfl
theorem um_law_189 : Cond.methodLink RL 189 yX12_isStale ∈ uw := uw_mem 2258 (by decide +kernel) rfl
theorem um_law_190 : Cond.methodLink RL 190 yX11_queued ∈ uw := uw_mem 502 (by decide +kernel) rfl
theorem um_law_193 : Cond.methodLink RL 193 yX12_queued ∈ uw := uw_mem 2262 (by decide +kernel) rfl
theorem um_law_194 : Cond.methodLink RL 194 yL_shown ∈ uw := uw_mem 1592 (by decide +kernel) rfl
theorem um_law_196 : Cond.methodLink RL 196 yX12_shown ∈ uw := uw_mem 2266 (by decide +kernel) rfl
theorem um_law_197 : Cond.methodLink RL 197 yL_shownAnew ∈ uw := uw_mem 1600 (by decide +kernel) rfl
theorem um_law_199 : Cond.methodLink RL 199 yX12_shownAnew ∈ uw := uw_mem 2270 (by decide +kernel) rfl
theorem um_law_200 : Cond.methodLink RL 200 yL_approvedAt ∈ uw := uw_mem 1607 (by decide +kernel) rfl
theorem um_law_202 : Cond.methodLink RL 202 yX12_approvedAt ∈ uw := uw_mem 2274 (by decide +kernel) rfl
theorem um_law_203 : Cond.methodLink RL 203 yL_linked ∈ uw := uw_mem 1614 (by decide +kernel) rfl
theorem um_law_205 : Cond.methodLink RL 205 yX12_linked ∈ uw := uw_mem 2278 (by decide +kernel) rfl
theorem um_law_206 : Cond.methodLink RL 206 yL_members ∈ uw := uw_mem 1622 (by decide +kernel) rfl
theorem um_law_208 : Cond.methodLink RL 208 yX12_members ∈ uw := uw_mem 2282 (by decide +kernel) rfl
theorem um_law_209 : Cond.methodLink RL 209 yX11_odd ∈ uw := uw_mem 510 (by decide +kernel) rfl
theorem um_law_213 : Cond.methodLink RL 213 yX12_odd ∈ uw := uw_mem 2286 (by decide +kernel) rfl
theorem um_law_214 : Cond.methodLink RL 214 yL_inLanguage ∈ uw := uw_mem 1631 (by decide +kernel) rfl
theorem um_law_216 : Cond.methodLink RL 216 yX12_inLanguage ∈ uw := uw_mem 2294 (by decide +kernel) rfl
theorem um_law_217 : Cond.methodLink RL 217 yL_isOutdated ∈ uw := uw_mem 1643 (by decide +kernel) rfl
theorem um_law_219 : Cond.methodLink RL 219 yX12_isOutdated ∈ uw := uw_mem 2306 (by decide +kernel) rfl
set_option maxHeartbeats 8000000 in
set_option maxRecDepth 100000 in
theorem case_token {l : Launch} {b0 : Nat} {bG : va_G} {cy : Nat → ClassId} {g : State → Heap → Prop} {sb b mo out Ls kc j : Nat} {xs : Nat → Int32} {T : List ExceptionTableEntry} {M : Md} {C : Cd} {sT : Nat → Nat} (hG : GK (b0, bG, cy, fS cy mo, g) l) (hXN : XN (b0, bG, cy, fS cy mo, g)) (hS : STs (b0, bG, cy, fS cy mo, g) sT) (hxs : XScr (b0, bG, cy, fS cy mo, g) sb Ls xs) (hj : 4 * j + 4 ≤ Ls) (hLs : Ls ≤ 2048) (hR : RR b kc M C) (hk : kc < 512) (ho : isO C out 108 ∧ cn C out = 1) (hbo : b + 854 ≤ out) :
    ∃ M' C', RR b (kc + 1) M' C' ∧ RmL b C C' ∧ (isO C' out 108 ∧ cn C' out = 1) ∧ ∀ X : Option (Int × St), RunO l (b0, bG, cy, fS cy mo, g) (kL T) 16 encI emL 2122 (loM sb b mo out (4 * j : Nat)) [] (mk1 M', C') X → RunO l (b0, bG, cy, fS cy mo, g) (kL T) 16 encI emL 180 (loM sb b mo out (4 * j : Nat)) [] (mk1 M, C) X := by
  have hb := hR.1.1.o
  obtain ⟨M', C', y, kk, hY, hR', hm, ho', eW, h36, hk0, hout⟩ := wrapE (tb := fun e => if e = 0 then some 1 else if e = 1 then some 2 else none) (S := [0, 1]) hR (call_token hR (i32_of _) (i32_of _)) (EO.use (ex_fX11_token b ((xs (ix ((4 * j : Nat) + (1 : Int)))).toInt) ((xs (ix ((4 * j : Nat) + (2 : Int)))).toInt) C)) (by decide) (GO.use (gr_fX11_token b ((xs (ix ((4 * j : Nat) + (1 : Int)))).toInt) ((xs (ix ((4 * j : Nat) + (2 : Int)))).toInt) C)) ho.1 ho.2 hbo
  have q1 : inR ((4 * j : Nat) + (1 : Int)) Ls := inR_s (by omega) (by omega)
  have q2 : inR ((4 * j : Nat) + (2 : Int)) Ls := inR_s (by omega) (by omega)
  have q3 : inR ((4 * j : Nat) + (3 : Int)) Ls := inR_s (by omega) (by omega)
  refine ⟨M', C', hR', hm, ho', fun X K => ?_⟩
  refine r_aload_n (x := b) dL_law_180 rfl rfl ?_
  refine r_aload_n (x := sb) dL_law_181 rfl rfl ?_
  refine r_iload (x := (4 * j : Nat)) dL_law_182 rfl ?_
  refine ro_iconst (v := 1) dL_law_184 rfl ?_
  refine r_iadd dL_law_185 ?_
  refine r_xld hxs q1 dL_law_186 ?_
  refine r_aload_n (x := sb) dL_law_187 rfl rfl ?_
  refine r_iload (x := (4 * j : Nat)) dL_law_188 rfl ?_
  refine ro_iconst (v := 2) dL_law_190 rfl ?_
  refine r_iadd dL_law_191 ?_
  refine r_xld hxs q2 dL_law_192 ?_
  refine r_aload_n (x := out) dL_law_193 rfl rfl ?_
  refine ro_callW (r2 := kk) (σ2 := (mk1 M, C')) (As := [.ref b, wi ((xs (ix ((4 * j : Nat) + (1 : Int)))).toInt), wi ((xs (ix ((4 * j : Nat) + (2 : Int)))).toInt), .ref out]) (rest := []) (by rw [show fL_token b ((xs (ix ((4 * j : Nat) + (1 : Int)))).toInt) ((xs (ix ((4 * j : Nat) + (2 : Int)))).toInt) out C = some (kk, C') from (if_pos hb).trans eW]; rfl) kv_L_token (w_ct (c_L_token hG hXN hS b ((xs (ix ((4 * j : Nat) + (1 : Int)))).toInt) ((xs (ix ((4 * j : Nat) + (2 : Int)))).toInt) out C)) (by decide) um_law_109 rfl (Nat.le_of_ble_eq_true rfl) dL_law_194 rfl ?_
  refine r_istore (x := kk) (lo2 := (5, wi kk) :: loM sb b mo out (4 * j : Nat)) dL_law_197 (show 5 < 7 by decide) rfl ?_
  refine r_aload_n (x := mo) dL_law_199 rfl rfl ?_
  refine r_aload_n (x := sb) dL_law_200 rfl rfl ?_
  refine r_iload (x := (4 * j : Nat)) dL_law_201 rfl ?_
  refine ro_iconst (v := 1) dL_law_203 rfl ?_
  refine r_iadd dL_law_204 ?_
  refine r_xld hxs q1 dL_law_205 ?_
  refine r_aload_n (x := sb) dL_law_206 rfl rfl ?_
  refine r_iload (x := (4 * j : Nat)) dL_law_207 rfl ?_
  refine ro_iconst (v := 2) dL_law_209 rfl ?_
  refine r_iadd dL_law_210 ?_
  refine r_xld hxs q2 dL_law_211 ?_
  refine ro_call0 hG (r2 := y) (σ2 := (mk1 M', C')) (v := some (wi y)) (X2 := (fX12_token ((xs (ix ((4 * j : Nat) + (1 : Int)))).toInt) ((xs (ix ((4 * j : Nat) + (2 : Int)))).toInt) M).map (fun q => (q.1, (mk1 q.2, C')))) (by rw [hY]; rfl) rfl (m_ct (c_X12_token (Γ := (b0, bG, cy, mCells cy mo (maA mo), g)) (mo := mo) (ma := maA mo) rfl ((xs (ix ((4 * j : Nat) + (1 : Int)))).toInt) ((xs (ix ((4 * j : Nat) + (2 : Int)))).toInt) M)) (inv_V (As := [wi ((xs (ix ((4 * j : Nat) + (1 : Int)))).toInt), wi ((xs (ix ((4 * j : Nat) + (2 : Int)))).toInt)]) (rest := []) kv_X12_token (by decide) um_law_114 rfl (Nat.le_of_ble_eq_true rfl) dL_law_212 (fun H s hK hR => m_recL H s hK hR)) ?_
  refine r_istore (x := y) (lo2 := (6, wi y) :: (5, wi kk) :: loM sb b mo out (4 * j : Nat)) dL_law_215 (show 6 < 7 by decide) rfl ?_
  refine r_aload_n (x := mo) dL_law_217 rfl rfl ?_
  refine ro_call0 hG (r2 := M'.1 36) (σ2 := (mk1 M', C')) (v := some (wi (M'.1 36))) (X2 := (fX12_thrown M').map (fun q => (q.1, (mk1 q.2, C')))) rfl rfl (m_ct (c_X12_thrown (Γ := (b0, bG, cy, mCells cy mo (maA mo), g)) (mo := mo) (ma := maA mo) rfl M')) (inv_V (As := []) (rest := []) kv_X12_thrown (by decide) um_law_115 rfl (Nat.le_of_ble_eq_true rfl) dL_law_218 (fun H s hK hR => m_recL H s hK hR)) ?_
  refine r_iload (x := kk) dL_law_221 rfl ?_
  refine ro_t (c := w32 (M'.1 36) = w32 kk) (by rw [h36]) ?_
  refine r_icmp_eq (tgt := 228) dL_law_223 (by decide) ?_ ro_none
  refine r_iload (x := kk) dL_law_228 rfl ?_
  by_cases hz : kk = 0
  · refine ro_f (c := ¬ w32 kk = 0) (fun z => z (by rw [hz]; rfl)) ?_
    refine r_if_ne (tgt := 245) dL_law_230 (by decide) ro_none ?_
    refine r_aload_n (x := out) dL_law_233 rfl rfl ?_
    refine ro_iconst (v := 0) dL_law_234 rfl ?_
    refine r_lld ho'.1 (by rw [ho'.2]; decide) dL_law_235 ?_
    rw [show cE C' out (ix 0) = w32 y from hout hz]
    refine r_iload (x := y) dL_law_236 rfl ?_
    refine r_i2l dL_law_238 ?_
    refine r_lcmpE dL_law_239 ?_
    refine ro_t (c := w32 0 = 0) rfl ?_
    refine r_if_eq (tgt := 245) dL_law_240 (by decide) ?_ ro_none
    refine r_goto (tgt := 2122) dL_law_245 (by decide) ?_
    exact r_lo [2, 3, 4, 5, 6] (lo2 := loM sb b mo out (4 * j : Nat)) rfl K
  · refine ro_t (c := ¬ w32 kk = 0) (fun z => hz (w32_k0 hk0 z)) ?_
    refine r_if_ne (tgt := 245) dL_law_230 (by decide) ?_ ro_none
    refine r_goto (tgt := 2122) dL_law_245 (by decide) ?_
    exact r_lo [2, 3, 4, 5, 6] (lo2 := loM sb b mo out (4 * j : Nat)) rfl K
set_option maxHeartbeats 8000000 in
set_option maxRecDepth 100000 in
theorem case_wipe {l : Launch} {b0 : Nat} {bG : va_G} {cy : Nat → ClassId} {g : State → Heap → Prop} {sb b mo out Ls kc j : Nat} {xs : Nat → Int32} {T : List ExceptionTableEntry} {M : Md} {C : Cd} {sT : Nat → Nat} (hG : GK (b0, bG, cy, fS cy mo, g) l) (hXN : XN (b0, bG, cy, fS cy mo, g)) (hS : STs (b0, bG, cy, fS cy mo, g) sT) (hxs : XScr (b0, bG, cy, fS cy mo, g) sb Ls xs) (hj : 4 * j + 4 ≤ Ls) (hLs : Ls ≤ 2048) (hR : RR b kc M C) (hk : kc < 512) (ho : isO C out 108 ∧ cn C out = 1) (hbo : b + 854 ≤ out) :
    ∃ M' C', RR b (kc + 1) M' C' ∧ RmL b C C' ∧ (isO C' out 108 ∧ cn C' out = 1) ∧ ∀ X : Option (Int × St), RunO l (b0, bG, cy, fS cy mo, g) (kL T) 16 encI emL 2122 (loM sb b mo out (4 * j : Nat)) [] (mk1 M', C') X → RunO l (b0, bG, cy, fS cy mo, g) (kL T) 16 encI emL 248 (loM sb b mo out (4 * j : Nat)) [] (mk1 M, C) X := by
  have hb := hR.1.1.o
  obtain ⟨M', C', y, hY, hR', hm, hX⟩ := call_wipe hR 
  obtain ⟨g1, g2, g3⟩ := GO.use (gr_fX11_wipe b C) _ _ hX hR.1.1.W out ho.1.1
  refine ⟨M', C', hR', hm, ⟨⟨g1, g2.trans ho.1.2⟩, g3.trans ho.2⟩, fun X K => ?_⟩
  refine r_aload_n (x := b) dL_law_248 rfl rfl ?_
  refine ro_call0 hG (r2 := y) (σ2 := (mk1 M, C')) (v := some (wi y)) (X2 := (fX11_wipe b C).map (fun q => (q.1, (mk1 M, q.2)))) (by rw [hX]; rfl) rfl (c_ct (c_X11_wipe hG b C)) (inv_V (As := []) (rest := []) kv_X11_wipe (by decide) um_law_119 rfl (Nat.le_of_ble_eq_true rfl) dL_law_249 (fun H s hK hR => c_rec hb hc_X11 (by decide) H s hK hR)) ?_
  refine r_aload_n (x := mo) dL_law_252 rfl rfl ?_
  refine ro_call0 hG (r2 := y) (σ2 := (mk1 M', C')) (v := some (wi y)) (X2 := (fX12_wipe M).map (fun q => (q.1, (mk1 q.2, C')))) (by rw [hY]; rfl) rfl (m_ct (c_X12_wipe (Γ := (b0, bG, cy, mCells cy mo (maA mo), g)) (mo := mo) (ma := maA mo) rfl M)) (inv_V (As := []) (rest := [wi y]) kv_X12_wipe (by decide) um_law_122 rfl (Nat.le_of_ble_eq_true rfl) dL_law_253 (fun H s hK hR => m_recL H s hK hR)) ?_
  refine ro_t (c := w32 y = w32 y) rfl ?_
  exact r_icmp_eq (tgt := 2122) dL_law_256 (by decide) K ro_none
set_option maxHeartbeats 8000000 in
set_option maxRecDepth 100000 in
theorem case_act {l : Launch} {b0 : Nat} {bG : va_G} {cy : Nat → ClassId} {g : State → Heap → Prop} {sb b mo out Ls kc j : Nat} {xs : Nat → Int32} {T : List ExceptionTableEntry} {M : Md} {C : Cd} {sT : Nat → Nat} (hG : GK (b0, bG, cy, fS cy mo, g) l) (hXN : XN (b0, bG, cy, fS cy mo, g)) (hS : STs (b0, bG, cy, fS cy mo, g) sT) (hxs : XScr (b0, bG, cy, fS cy mo, g) sb Ls xs) (hj : 4 * j + 4 ≤ Ls) (hLs : Ls ≤ 2048) (hR : RR b kc M C) (hk : kc < 512) (ho : isO C out 108 ∧ cn C out = 1) (hbo : b + 854 ≤ out) :
    ∃ M' C', RR b (kc + 1) M' C' ∧ RmL b C C' ∧ (isO C' out 108 ∧ cn C' out = 1) ∧ ∀ X : Option (Int × St), RunO l (b0, bG, cy, fS cy mo, g) (kL T) 16 encI emL 2122 (loM sb b mo out (4 * j : Nat)) [] (mk1 M', C') X → RunO l (b0, bG, cy, fS cy mo, g) (kL T) 16 encI emL 261 (loM sb b mo out (4 * j : Nat)) [] (mk1 M, C) X := by
  have hb := hR.1.1.o
  obtain ⟨M', C', y, kk, hY, hR', hm, ho', eW, h36, hk0, hout⟩ := wrapE (tb := fun e => if e = 0 then some 1 else none) (S := [0]) hR (call_act hR (i32_of _)) (EO.use (ex_fX11_act b ((xs (ix ((4 * j : Nat) + (1 : Int)))).toInt) C)) (by decide) (GO.use (gr_fX11_act b ((xs (ix ((4 * j : Nat) + (1 : Int)))).toInt) C)) ho.1 ho.2 hbo
  have q1 : inR ((4 * j : Nat) + (1 : Int)) Ls := inR_s (by omega) (by omega)
  have q2 : inR ((4 * j : Nat) + (2 : Int)) Ls := inR_s (by omega) (by omega)
  have q3 : inR ((4 * j : Nat) + (3 : Int)) Ls := inR_s (by omega) (by omega)
  refine ⟨M', C', hR', hm, ho', fun X K => ?_⟩
  refine r_aload_n (x := b) dL_law_261 rfl rfl ?_
  refine r_aload_n (x := sb) dL_law_262 rfl rfl ?_
  refine r_iload (x := (4 * j : Nat)) dL_law_263 rfl ?_
  refine ro_iconst (v := 1) dL_law_265 rfl ?_
  refine r_iadd dL_law_266 ?_
  refine r_xld hxs q1 dL_law_267 ?_
  refine r_aload_n (x := out) dL_law_268 rfl rfl ?_
  refine ro_callW (r2 := kk) (σ2 := (mk1 M, C')) (As := [.ref b, wi ((xs (ix ((4 * j : Nat) + (1 : Int)))).toInt), .ref out]) (rest := []) (by rw [show fL_act b ((xs (ix ((4 * j : Nat) + (1 : Int)))).toInt) out C = some (kk, C') from (if_pos hb).trans eW]; rfl) kv_L_act (w_ct (c_L_act hG hXN b ((xs (ix ((4 * j : Nat) + (1 : Int)))).toInt) out C)) (by decide) um_law_123 rfl (Nat.le_of_ble_eq_true rfl) dL_law_269 rfl ?_
  refine r_istore (x := kk) (lo2 := (5, wi kk) :: loM sb b mo out (4 * j : Nat)) dL_law_272 (show 5 < 7 by decide) rfl ?_
  refine r_aload_n (x := mo) dL_law_274 rfl rfl ?_
  refine r_aload_n (x := sb) dL_law_275 rfl rfl ?_
  refine r_iload (x := (4 * j : Nat)) dL_law_276 rfl ?_
  refine ro_iconst (v := 1) dL_law_278 rfl ?_
  refine r_iadd dL_law_279 ?_
  refine r_xld hxs q1 dL_law_280 ?_
  refine ro_call0 hG (r2 := y) (σ2 := (mk1 M', C')) (v := some (wi y)) (X2 := (fX12_act ((xs (ix ((4 * j : Nat) + (1 : Int)))).toInt) M).map (fun q => (q.1, (mk1 q.2, C')))) (by rw [hY]; rfl) rfl (m_ct (c_X12_act (Γ := (b0, bG, cy, mCells cy mo (maA mo), g)) (mo := mo) (ma := maA mo) rfl ((xs (ix ((4 * j : Nat) + (1 : Int)))).toInt) M)) (inv_V (As := [wi ((xs (ix ((4 * j : Nat) + (1 : Int)))).toInt)]) (rest := []) kv_X12_act (by decide) um_law_126 rfl (Nat.le_of_ble_eq_true rfl) dL_law_281 (fun H s hK hR => m_recL H s hK hR)) ?_
  refine r_istore (x := y) (lo2 := (6, wi y) :: (5, wi kk) :: loM sb b mo out (4 * j : Nat)) dL_law_284 (show 6 < 7 by decide) rfl ?_
  refine r_aload_n (x := mo) dL_law_286 rfl rfl ?_
  refine ro_call0 hG (r2 := M'.1 36) (σ2 := (mk1 M', C')) (v := some (wi (M'.1 36))) (X2 := (fX12_thrown M').map (fun q => (q.1, (mk1 q.2, C')))) rfl rfl (m_ct (c_X12_thrown (Γ := (b0, bG, cy, mCells cy mo (maA mo), g)) (mo := mo) (ma := maA mo) rfl M')) (inv_V (As := []) (rest := []) kv_X12_thrown (by decide) um_law_115 rfl (Nat.le_of_ble_eq_true rfl) dL_law_287 (fun H s hK hR => m_recL H s hK hR)) ?_
  refine r_iload (x := kk) dL_law_290 rfl ?_
  refine ro_t (c := w32 (M'.1 36) = w32 kk) (by rw [h36]) ?_
  refine r_icmp_eq (tgt := 297) dL_law_292 (by decide) ?_ ro_none
  refine r_iload (x := kk) dL_law_297 rfl ?_
  by_cases hz : kk = 0
  · refine ro_f (c := ¬ w32 kk = 0) (fun z => z (by rw [hz]; rfl)) ?_
    refine r_if_ne (tgt := 314) dL_law_299 (by decide) ro_none ?_
    refine r_aload_n (x := out) dL_law_302 rfl rfl ?_
    refine ro_iconst (v := 0) dL_law_303 rfl ?_
    refine r_lld ho'.1 (by rw [ho'.2]; decide) dL_law_304 ?_
    rw [show cE C' out (ix 0) = w32 y from hout hz]
    refine r_iload (x := y) dL_law_305 rfl ?_
    refine r_i2l dL_law_307 ?_
    refine r_lcmpE dL_law_308 ?_
    refine ro_t (c := w32 0 = 0) rfl ?_
    refine r_if_eq (tgt := 314) dL_law_309 (by decide) ?_ ro_none
    refine r_goto (tgt := 2122) dL_law_314 (by decide) ?_
    exact r_lo [2, 3, 4, 5, 6] (lo2 := loM sb b mo out (4 * j : Nat)) rfl K
  · refine ro_t (c := ¬ w32 kk = 0) (fun z => hz (w32_k0 hk0 z)) ?_
    refine r_if_ne (tgt := 314) dL_law_299 (by decide) ?_ ro_none
    refine r_goto (tgt := 2122) dL_law_314 (by decide) ?_
    exact r_lo [2, 3, 4, 5, 6] (lo2 := loM sb b mo out (4 * j : Nat)) rfl K
set_option maxHeartbeats 8000000 in
set_option maxRecDepth 100000 in
theorem case_protect {l : Launch} {b0 : Nat} {bG : va_G} {cy : Nat → ClassId} {g : State → Heap → Prop} {sb b mo out Ls kc j : Nat} {xs : Nat → Int32} {T : List ExceptionTableEntry} {M : Md} {C : Cd} {sT : Nat → Nat} (hG : GK (b0, bG, cy, fS cy mo, g) l) (hXN : XN (b0, bG, cy, fS cy mo, g)) (hS : STs (b0, bG, cy, fS cy mo, g) sT) (hxs : XScr (b0, bG, cy, fS cy mo, g) sb Ls xs) (hj : 4 * j + 4 ≤ Ls) (hLs : Ls ≤ 2048) (hR : RR b kc M C) (hk : kc < 512) (ho : isO C out 108 ∧ cn C out = 1) (hbo : b + 854 ≤ out) :
    ∃ M' C', RR b (kc + 1) M' C' ∧ RmL b C C' ∧ (isO C' out 108 ∧ cn C' out = 1) ∧ ∀ X : Option (Int × St), RunO l (b0, bG, cy, fS cy mo, g) (kL T) 16 encI emL 2122 (loM sb b mo out (4 * j : Nat)) [] (mk1 M', C') X → RunO l (b0, bG, cy, fS cy mo, g) (kL T) 16 encI emL 317 (loM sb b mo out (4 * j : Nat)) [] (mk1 M, C) X := by
  have hb := hR.1.1.o
  obtain ⟨M', C', y, kk, hY, hR', hm, ho', eW, h36, hk0, hout⟩ := wrapE (tb := fun e => if e = 2 then some 1 else if e = 0 then some 2 else if e = 1 then some 3 else none) (S := [0, 1, 2]) hR (call_protect hR (i32_of _) (i32_of _)) (EO.use (ex_fX11_protect b ((xs (ix ((4 * j : Nat) + (1 : Int)))).toInt) ((xs (ix ((4 * j : Nat) + (2 : Int)))).toInt) C)) (by decide) (GO.use (gr_fX11_protect b ((xs (ix ((4 * j : Nat) + (1 : Int)))).toInt) ((xs (ix ((4 * j : Nat) + (2 : Int)))).toInt) C)) ho.1 ho.2 hbo
  have q1 : inR ((4 * j : Nat) + (1 : Int)) Ls := inR_s (by omega) (by omega)
  have q2 : inR ((4 * j : Nat) + (2 : Int)) Ls := inR_s (by omega) (by omega)
  have q3 : inR ((4 * j : Nat) + (3 : Int)) Ls := inR_s (by omega) (by omega)
  refine ⟨M', C', hR', hm, ho', fun X K => ?_⟩
  refine r_aload_n (x := b) dL_law_317 rfl rfl ?_
  refine r_aload_n (x := sb) dL_law_318 rfl rfl ?_
  refine r_iload (x := (4 * j : Nat)) dL_law_319 rfl ?_
  refine ro_iconst (v := 1) dL_law_321 rfl ?_
  refine r_iadd dL_law_322 ?_
  refine r_xld hxs q1 dL_law_323 ?_
  refine r_aload_n (x := sb) dL_law_324 rfl rfl ?_
  refine r_iload (x := (4 * j : Nat)) dL_law_325 rfl ?_
  refine ro_iconst (v := 2) dL_law_327 rfl ?_
  refine r_iadd dL_law_328 ?_
  refine r_xld hxs q2 dL_law_329 ?_
  refine r_aload_n (x := out) dL_law_330 rfl rfl ?_
  refine ro_callW (r2 := kk) (σ2 := (mk1 M, C')) (As := [.ref b, wi ((xs (ix ((4 * j : Nat) + (1 : Int)))).toInt), wi ((xs (ix ((4 * j : Nat) + (2 : Int)))).toInt), .ref out]) (rest := []) (by rw [show fL_protect b ((xs (ix ((4 * j : Nat) + (1 : Int)))).toInt) ((xs (ix ((4 * j : Nat) + (2 : Int)))).toInt) out C = some (kk, C') from (if_pos hb).trans eW]; rfl) kv_L_protect (w_ct (c_L_protect hG hXN b ((xs (ix ((4 * j : Nat) + (1 : Int)))).toInt) ((xs (ix ((4 * j : Nat) + (2 : Int)))).toInt) out C)) (by decide) um_law_127 rfl (Nat.le_of_ble_eq_true rfl) dL_law_331 rfl ?_
  refine r_istore (x := kk) (lo2 := (5, wi kk) :: loM sb b mo out (4 * j : Nat)) dL_law_334 (show 5 < 7 by decide) rfl ?_
  refine r_aload_n (x := mo) dL_law_336 rfl rfl ?_
  refine r_aload_n (x := sb) dL_law_337 rfl rfl ?_
  refine r_iload (x := (4 * j : Nat)) dL_law_338 rfl ?_
  refine ro_iconst (v := 1) dL_law_340 rfl ?_
  refine r_iadd dL_law_341 ?_
  refine r_xld hxs q1 dL_law_342 ?_
  refine r_aload_n (x := sb) dL_law_343 rfl rfl ?_
  refine r_iload (x := (4 * j : Nat)) dL_law_344 rfl ?_
  refine ro_iconst (v := 2) dL_law_346 rfl ?_
  refine r_iadd dL_law_347 ?_
  refine r_xld hxs q2 dL_law_348 ?_
  refine ro_call0 hG (r2 := y) (σ2 := (mk1 M', C')) (v := some (wi y)) (X2 := (fX12_protect ((xs (ix ((4 * j : Nat) + (1 : Int)))).toInt) ((xs (ix ((4 * j : Nat) + (2 : Int)))).toInt) M).map (fun q => (q.1, (mk1 q.2, C')))) (by rw [hY]; rfl) rfl (m_ct (c_X12_protect (Γ := (b0, bG, cy, mCells cy mo (maA mo), g)) (mo := mo) (ma := maA mo) rfl ((xs (ix ((4 * j : Nat) + (1 : Int)))).toInt) ((xs (ix ((4 * j : Nat) + (2 : Int)))).toInt) M)) (inv_V (As := [wi ((xs (ix ((4 * j : Nat) + (1 : Int)))).toInt), wi ((xs (ix ((4 * j : Nat) + (2 : Int)))).toInt)]) (rest := []) kv_X12_protect (by decide) um_law_129 rfl (Nat.le_of_ble_eq_true rfl) dL_law_349 (fun H s hK hR => m_recL H s hK hR)) ?_
  refine r_istore (x := y) (lo2 := (6, wi y) :: (5, wi kk) :: loM sb b mo out (4 * j : Nat)) dL_law_352 (show 6 < 7 by decide) rfl ?_
  refine r_aload_n (x := mo) dL_law_354 rfl rfl ?_
  refine ro_call0 hG (r2 := M'.1 36) (σ2 := (mk1 M', C')) (v := some (wi (M'.1 36))) (X2 := (fX12_thrown M').map (fun q => (q.1, (mk1 q.2, C')))) rfl rfl (m_ct (c_X12_thrown (Γ := (b0, bG, cy, mCells cy mo (maA mo), g)) (mo := mo) (ma := maA mo) rfl M')) (inv_V (As := []) (rest := []) kv_X12_thrown (by decide) um_law_115 rfl (Nat.le_of_ble_eq_true rfl) dL_law_355 (fun H s hK hR => m_recL H s hK hR)) ?_
  refine r_iload (x := kk) dL_law_358 rfl ?_
  refine ro_t (c := w32 (M'.1 36) = w32 kk) (by rw [h36]) ?_
  refine r_icmp_eq (tgt := 365) dL_law_360 (by decide) ?_ ro_none
  refine r_iload (x := kk) dL_law_365 rfl ?_
  by_cases hz : kk = 0
  · refine ro_f (c := ¬ w32 kk = 0) (fun z => z (by rw [hz]; rfl)) ?_
    refine r_if_ne (tgt := 382) dL_law_367 (by decide) ro_none ?_
    refine r_aload_n (x := out) dL_law_370 rfl rfl ?_
    refine ro_iconst (v := 0) dL_law_371 rfl ?_
    refine r_lld ho'.1 (by rw [ho'.2]; decide) dL_law_372 ?_
    rw [show cE C' out (ix 0) = w32 y from hout hz]
    refine r_iload (x := y) dL_law_373 rfl ?_
    refine r_i2l dL_law_375 ?_
    refine r_lcmpE dL_law_376 ?_
    refine ro_t (c := w32 0 = 0) rfl ?_
    refine r_if_eq (tgt := 382) dL_law_377 (by decide) ?_ ro_none
    refine r_goto (tgt := 2122) dL_law_382 (by decide) ?_
    exact r_lo [2, 3, 4, 5, 6] (lo2 := loM sb b mo out (4 * j : Nat)) rfl K
  · refine ro_t (c := ¬ w32 kk = 0) (fun z => hz (w32_k0 hk0 z)) ?_
    refine r_if_ne (tgt := 382) dL_law_367 (by decide) ?_ ro_none
    refine r_goto (tgt := 2122) dL_law_382 (by decide) ?_
    exact r_lo [2, 3, 4, 5, 6] (lo2 := loM sb b mo out (4 * j : Nat)) rfl K
set_option maxHeartbeats 8000000 in
set_option maxRecDepth 100000 in
theorem case_create {l : Launch} {b0 : Nat} {bG : va_G} {cy : Nat → ClassId} {g : State → Heap → Prop} {sb b mo out Ls kc j : Nat} {xs : Nat → Int32} {T : List ExceptionTableEntry} {M : Md} {C : Cd} {sT : Nat → Nat} (hG : GK (b0, bG, cy, fS cy mo, g) l) (hXN : XN (b0, bG, cy, fS cy mo, g)) (hS : STs (b0, bG, cy, fS cy mo, g) sT) (hxs : XScr (b0, bG, cy, fS cy mo, g) sb Ls xs) (hj : 4 * j + 4 ≤ Ls) (hLs : Ls ≤ 2048) (hR : RR b kc M C) (hk : kc < 512) (ho : isO C out 108 ∧ cn C out = 1) (hbo : b + 854 ≤ out) :
    ∃ M' C', RR b (kc + 1) M' C' ∧ RmL b C C' ∧ (isO C' out 108 ∧ cn C' out = 1) ∧ ∀ X : Option (Int × St), RunO l (b0, bG, cy, fS cy mo, g) (kL T) 16 encI emL 2122 (loM sb b mo out (4 * j : Nat)) [] (mk1 M', C') X → RunO l (b0, bG, cy, fS cy mo, g) (kL T) 16 encI emL 385 (loM sb b mo out (4 * j : Nat)) [] (mk1 M, C) X := by
  have hb := hR.1.1.o
  obtain ⟨M', C', y, kk, hY, hR', hm, ho', eW, h36, hk0, hout⟩ := wrapE (tb := fun e => if e = 2 then some 1 else if e = 1 then some 2 else none) (S := [1, 2]) hR (call_create hR (by omega) (i32_of _)) (EO.use (ex_fX11_create b ((xs (ix ((4 * j : Nat) + (1 : Int)))).toInt) C)) (by decide) (GO.use (gr_fX11_create b ((xs (ix ((4 * j : Nat) + (1 : Int)))).toInt) C)) ho.1 ho.2 hbo
  have q1 : inR ((4 * j : Nat) + (1 : Int)) Ls := inR_s (by omega) (by omega)
  have q2 : inR ((4 * j : Nat) + (2 : Int)) Ls := inR_s (by omega) (by omega)
  have q3 : inR ((4 * j : Nat) + (3 : Int)) Ls := inR_s (by omega) (by omega)
  refine ⟨M', C', hR', hm, ho', fun X K => ?_⟩
  refine r_aload_n (x := b) dL_law_385 rfl rfl ?_
  refine r_aload_n (x := sb) dL_law_386 rfl rfl ?_
  refine r_iload (x := (4 * j : Nat)) dL_law_387 rfl ?_
  refine ro_iconst (v := 1) dL_law_389 rfl ?_
  refine r_iadd dL_law_390 ?_
  refine r_xld hxs q1 dL_law_391 ?_
  refine r_aload_n (x := out) dL_law_392 rfl rfl ?_
  refine ro_callW (r2 := kk) (σ2 := (mk1 M, C')) (As := [.ref b, wi ((xs (ix ((4 * j : Nat) + (1 : Int)))).toInt), .ref out]) (rest := []) (by rw [show fL_create b ((xs (ix ((4 * j : Nat) + (1 : Int)))).toInt) out C = some (kk, C') from (if_pos hb).trans eW]; rfl) kv_L_create (w_ct (c_L_create hG hXN b ((xs (ix ((4 * j : Nat) + (1 : Int)))).toInt) out C)) (by decide) um_law_130 rfl (Nat.le_of_ble_eq_true rfl) dL_law_393 rfl ?_
  refine r_istore (x := kk) (lo2 := (5, wi kk) :: loM sb b mo out (4 * j : Nat)) dL_law_396 (show 5 < 7 by decide) rfl ?_
  refine r_aload_n (x := mo) dL_law_398 rfl rfl ?_
  refine r_aload_n (x := sb) dL_law_399 rfl rfl ?_
  refine r_iload (x := (4 * j : Nat)) dL_law_400 rfl ?_
  refine ro_iconst (v := 1) dL_law_402 rfl ?_
  refine r_iadd dL_law_403 ?_
  refine r_xld hxs q1 dL_law_404 ?_
  refine ro_call0 hG (r2 := y) (σ2 := (mk1 M', C')) (v := some (wi y)) (X2 := (fX12_create ((xs (ix ((4 * j : Nat) + (1 : Int)))).toInt) M).map (fun q => (q.1, (mk1 q.2, C')))) (by rw [hY]; rfl) rfl (m_ct (c_X12_create (Γ := (b0, bG, cy, mCells cy mo (maA mo), g)) (mo := mo) (ma := maA mo) rfl ((xs (ix ((4 * j : Nat) + (1 : Int)))).toInt) M)) (inv_V (As := [wi ((xs (ix ((4 * j : Nat) + (1 : Int)))).toInt)]) (rest := []) kv_X12_create (by decide) um_law_132 rfl (Nat.le_of_ble_eq_true rfl) dL_law_405 (fun H s hK hR => m_recL H s hK hR)) ?_
  refine r_istore (x := y) (lo2 := (6, wi y) :: (5, wi kk) :: loM sb b mo out (4 * j : Nat)) dL_law_408 (show 6 < 7 by decide) rfl ?_
  refine r_aload_n (x := mo) dL_law_410 rfl rfl ?_
  refine ro_call0 hG (r2 := M'.1 36) (σ2 := (mk1 M', C')) (v := some (wi (M'.1 36))) (X2 := (fX12_thrown M').map (fun q => (q.1, (mk1 q.2, C')))) rfl rfl (m_ct (c_X12_thrown (Γ := (b0, bG, cy, mCells cy mo (maA mo), g)) (mo := mo) (ma := maA mo) rfl M')) (inv_V (As := []) (rest := []) kv_X12_thrown (by decide) um_law_115 rfl (Nat.le_of_ble_eq_true rfl) dL_law_411 (fun H s hK hR => m_recL H s hK hR)) ?_
  refine r_iload (x := kk) dL_law_414 rfl ?_
  refine ro_t (c := w32 (M'.1 36) = w32 kk) (by rw [h36]) ?_
  refine r_icmp_eq (tgt := 421) dL_law_416 (by decide) ?_ ro_none
  refine r_iload (x := kk) dL_law_421 rfl ?_
  by_cases hz : kk = 0
  · refine ro_f (c := ¬ w32 kk = 0) (fun z => z (by rw [hz]; rfl)) ?_
    refine r_if_ne (tgt := 438) dL_law_423 (by decide) ro_none ?_
    refine r_aload_n (x := out) dL_law_426 rfl rfl ?_
    refine ro_iconst (v := 0) dL_law_427 rfl ?_
    refine r_lld ho'.1 (by rw [ho'.2]; decide) dL_law_428 ?_
    rw [show cE C' out (ix 0) = w32 y from hout hz]
    refine r_iload (x := y) dL_law_429 rfl ?_
    refine r_i2l dL_law_431 ?_
    refine r_lcmpE dL_law_432 ?_
    refine ro_t (c := w32 0 = 0) rfl ?_
    refine r_if_eq (tgt := 438) dL_law_433 (by decide) ?_ ro_none
    refine r_goto (tgt := 2122) dL_law_438 (by decide) ?_
    exact r_lo [2, 3, 4, 5, 6] (lo2 := loM sb b mo out (4 * j : Nat)) rfl K
  · refine ro_t (c := ¬ w32 kk = 0) (fun z => hz (w32_k0 hk0 z)) ?_
    refine r_if_ne (tgt := 438) dL_law_423 (by decide) ?_ ro_none
    refine r_goto (tgt := 2122) dL_law_438 (by decide) ?_
    exact r_lo [2, 3, 4, 5, 6] (lo2 := loM sb b mo out (4 * j : Nat)) rfl K
set_option maxHeartbeats 8000000 in
set_option maxRecDepth 100000 in
theorem case_edit {l : Launch} {b0 : Nat} {bG : va_G} {cy : Nat → ClassId} {g : State → Heap → Prop} {sb b mo out Ls kc j : Nat} {xs : Nat → Int32} {T : List ExceptionTableEntry} {M : Md} {C : Cd} {sT : Nat → Nat} (hG : GK (b0, bG, cy, fS cy mo, g) l) (hXN : XN (b0, bG, cy, fS cy mo, g)) (hS : STs (b0, bG, cy, fS cy mo, g) sT) (hxs : XScr (b0, bG, cy, fS cy mo, g) sb Ls xs) (hj : 4 * j + 4 ≤ Ls) (hLs : Ls ≤ 2048) (hR : RR b kc M C) (hk : kc < 512) (ho : isO C out 108 ∧ cn C out = 1) (hbo : b + 854 ≤ out) :
    ∃ M' C', RR b (kc + 1) M' C' ∧ RmL b C C' ∧ (isO C' out 108 ∧ cn C' out = 1) ∧ ∀ X : Option (Int × St), RunO l (b0, bG, cy, fS cy mo, g) (kL T) 16 encI emL 2122 (loM sb b mo out (4 * j : Nat)) [] (mk1 M', C') X → RunO l (b0, bG, cy, fS cy mo, g) (kL T) 16 encI emL 441 (loM sb b mo out (4 * j : Nat)) [] (mk1 M, C) X := by
  have hb := hR.1.1.o
  obtain ⟨M', C', y, kk, hY, hR', hm, ho', eW, h36, hk0, hout⟩ := wrapE (tb := fun e => if e = 2 then some 1 else if e = 1 then some 2 else none) (S := [1, 2]) hR (call_edit hR (by omega) (i32_of _) (i32_of _) (i32_of _)) (EO.use (ex_fX11_edit b ((xs (ix ((4 * j : Nat) + (1 : Int)))).toInt) ((xs (ix ((4 * j : Nat) + (2 : Int)))).toInt) ((xs (ix ((4 * j : Nat) + (3 : Int)))).toInt) C)) (by decide) (GO.use (gr_fX11_edit b ((xs (ix ((4 * j : Nat) + (1 : Int)))).toInt) ((xs (ix ((4 * j : Nat) + (2 : Int)))).toInt) ((xs (ix ((4 * j : Nat) + (3 : Int)))).toInt) C)) ho.1 ho.2 hbo
  have q1 : inR ((4 * j : Nat) + (1 : Int)) Ls := inR_s (by omega) (by omega)
  have q2 : inR ((4 * j : Nat) + (2 : Int)) Ls := inR_s (by omega) (by omega)
  have q3 : inR ((4 * j : Nat) + (3 : Int)) Ls := inR_s (by omega) (by omega)
  refine ⟨M', C', hR', hm, ho', fun X K => ?_⟩
  refine r_aload_n (x := b) dL_law_441 rfl rfl ?_
  refine r_aload_n (x := sb) dL_law_442 rfl rfl ?_
  refine r_iload (x := (4 * j : Nat)) dL_law_443 rfl ?_
  refine ro_iconst (v := 1) dL_law_445 rfl ?_
  refine r_iadd dL_law_446 ?_
  refine r_xld hxs q1 dL_law_447 ?_
  refine r_aload_n (x := sb) dL_law_448 rfl rfl ?_
  refine r_iload (x := (4 * j : Nat)) dL_law_449 rfl ?_
  refine ro_iconst (v := 2) dL_law_451 rfl ?_
  refine r_iadd dL_law_452 ?_
  refine r_xld hxs q2 dL_law_453 ?_
  refine r_aload_n (x := sb) dL_law_454 rfl rfl ?_
  refine r_iload (x := (4 * j : Nat)) dL_law_455 rfl ?_
  refine ro_iconst (v := 3) dL_law_457 rfl ?_
  refine r_iadd dL_law_458 ?_
  refine r_xld hxs q3 dL_law_459 ?_
  refine r_aload_n (x := out) dL_law_460 rfl rfl ?_
  refine ro_callW (r2 := kk) (σ2 := (mk1 M, C')) (As := [.ref b, wi ((xs (ix ((4 * j : Nat) + (1 : Int)))).toInt), wi ((xs (ix ((4 * j : Nat) + (2 : Int)))).toInt), wi ((xs (ix ((4 * j : Nat) + (3 : Int)))).toInt), .ref out]) (rest := []) (by rw [show fL_edit b ((xs (ix ((4 * j : Nat) + (1 : Int)))).toInt) ((xs (ix ((4 * j : Nat) + (2 : Int)))).toInt) ((xs (ix ((4 * j : Nat) + (3 : Int)))).toInt) out C = some (kk, C') from (if_pos hb).trans eW]; rfl) kv_L_edit (w_ct (c_L_edit hG hXN b ((xs (ix ((4 * j : Nat) + (1 : Int)))).toInt) ((xs (ix ((4 * j : Nat) + (2 : Int)))).toInt) ((xs (ix ((4 * j : Nat) + (3 : Int)))).toInt) out C)) (by decide) um_law_133 rfl (Nat.le_of_ble_eq_true rfl) dL_law_461 rfl ?_
  refine r_istore (x := kk) (lo2 := (5, wi kk) :: loM sb b mo out (4 * j : Nat)) dL_law_464 (show 5 < 7 by decide) rfl ?_
  refine r_aload_n (x := mo) dL_law_466 rfl rfl ?_
  refine r_aload_n (x := sb) dL_law_467 rfl rfl ?_
  refine r_iload (x := (4 * j : Nat)) dL_law_468 rfl ?_
  refine ro_iconst (v := 1) dL_law_470 rfl ?_
  refine r_iadd dL_law_471 ?_
  refine r_xld hxs q1 dL_law_472 ?_
  refine r_aload_n (x := sb) dL_law_473 rfl rfl ?_
  refine r_iload (x := (4 * j : Nat)) dL_law_474 rfl ?_
  refine ro_iconst (v := 2) dL_law_476 rfl ?_
  refine r_iadd dL_law_477 ?_
  refine r_xld hxs q2 dL_law_478 ?_
  refine r_aload_n (x := sb) dL_law_479 rfl rfl ?_
  refine r_iload (x := (4 * j : Nat)) dL_law_480 rfl ?_
  refine ro_iconst (v := 3) dL_law_482 rfl ?_
  refine r_iadd dL_law_483 ?_
  refine r_xld hxs q3 dL_law_484 ?_
  refine ro_call0 hG (r2 := y) (σ2 := (mk1 M', C')) (v := some (wi y)) (X2 := (fX12_edit ((xs (ix ((4 * j : Nat) + (1 : Int)))).toInt) ((xs (ix ((4 * j : Nat) + (2 : Int)))).toInt) ((xs (ix ((4 * j : Nat) + (3 : Int)))).toInt) M).map (fun q => (q.1, (mk1 q.2, C')))) (by rw [hY]; rfl) rfl (m_ct (c_X12_edit (Γ := (b0, bG, cy, mCells cy mo (maA mo), g)) (mo := mo) (ma := maA mo) rfl ((xs (ix ((4 * j : Nat) + (1 : Int)))).toInt) ((xs (ix ((4 * j : Nat) + (2 : Int)))).toInt) ((xs (ix ((4 * j : Nat) + (3 : Int)))).toInt) M)) (inv_V (As := [wi ((xs (ix ((4 * j : Nat) + (1 : Int)))).toInt), wi ((xs (ix ((4 * j : Nat) + (2 : Int)))).toInt), wi ((xs (ix ((4 * j : Nat) + (3 : Int)))).toInt)]) (rest := []) kv_X12_edit (by decide) um_law_136 rfl (Nat.le_of_ble_eq_true rfl) dL_law_485 (fun H s hK hR => m_recL H s hK hR)) ?_
  refine r_istore (x := y) (lo2 := (6, wi y) :: (5, wi kk) :: loM sb b mo out (4 * j : Nat)) dL_law_488 (show 6 < 7 by decide) rfl ?_
  refine r_aload_n (x := mo) dL_law_490 rfl rfl ?_
  refine ro_call0 hG (r2 := M'.1 36) (σ2 := (mk1 M', C')) (v := some (wi (M'.1 36))) (X2 := (fX12_thrown M').map (fun q => (q.1, (mk1 q.2, C')))) rfl rfl (m_ct (c_X12_thrown (Γ := (b0, bG, cy, mCells cy mo (maA mo), g)) (mo := mo) (ma := maA mo) rfl M')) (inv_V (As := []) (rest := []) kv_X12_thrown (by decide) um_law_115 rfl (Nat.le_of_ble_eq_true rfl) dL_law_491 (fun H s hK hR => m_recL H s hK hR)) ?_
  refine r_iload (x := kk) dL_law_494 rfl ?_
  refine ro_t (c := w32 (M'.1 36) = w32 kk) (by rw [h36]) ?_
  refine r_icmp_eq (tgt := 501) dL_law_496 (by decide) ?_ ro_none
  refine r_iload (x := kk) dL_law_501 rfl ?_
  by_cases hz : kk = 0
  · refine ro_f (c := ¬ w32 kk = 0) (fun z => z (by rw [hz]; rfl)) ?_
    refine r_if_ne (tgt := 518) dL_law_503 (by decide) ro_none ?_
    refine r_aload_n (x := out) dL_law_506 rfl rfl ?_
    refine ro_iconst (v := 0) dL_law_507 rfl ?_
    refine r_lld ho'.1 (by rw [ho'.2]; decide) dL_law_508 ?_
    rw [show cE C' out (ix 0) = w32 y from hout hz]
    refine r_iload (x := y) dL_law_509 rfl ?_
    refine r_i2l dL_law_511 ?_
    refine r_lcmpE dL_law_512 ?_
    refine ro_t (c := w32 0 = 0) rfl ?_
    refine r_if_eq (tgt := 518) dL_law_513 (by decide) ?_ ro_none
    refine r_goto (tgt := 2122) dL_law_518 (by decide) ?_
    exact r_lo [2, 3, 4, 5, 6] (lo2 := loM sb b mo out (4 * j : Nat)) rfl K
  · refine ro_t (c := ¬ w32 kk = 0) (fun z => hz (w32_k0 hk0 z)) ?_
    refine r_if_ne (tgt := 518) dL_law_503 (by decide) ?_ ro_none
    refine r_goto (tgt := 2122) dL_law_518 (by decide) ?_
    exact r_lo [2, 3, 4, 5, 6] (lo2 := loM sb b mo out (4 * j : Nat)) rfl K
set_option maxHeartbeats 8000000 in
set_option maxRecDepth 100000 in
theorem case_undo {l : Launch} {b0 : Nat} {bG : va_G} {cy : Nat → ClassId} {g : State → Heap → Prop} {sb b mo out Ls kc j : Nat} {xs : Nat → Int32} {T : List ExceptionTableEntry} {M : Md} {C : Cd} {sT : Nat → Nat} (hG : GK (b0, bG, cy, fS cy mo, g) l) (hXN : XN (b0, bG, cy, fS cy mo, g)) (hS : STs (b0, bG, cy, fS cy mo, g) sT) (hxs : XScr (b0, bG, cy, fS cy mo, g) sb Ls xs) (hj : 4 * j + 4 ≤ Ls) (hLs : Ls ≤ 2048) (hR : RR b kc M C) (hk : kc < 512) (ho : isO C out 108 ∧ cn C out = 1) (hbo : b + 854 ≤ out) :
    ∃ M' C', RR b (kc + 1) M' C' ∧ RmL b C C' ∧ (isO C' out 108 ∧ cn C' out = 1) ∧ ∀ X : Option (Int × St), RunO l (b0, bG, cy, fS cy mo, g) (kL T) 16 encI emL 2122 (loM sb b mo out (4 * j : Nat)) [] (mk1 M', C') X → RunO l (b0, bG, cy, fS cy mo, g) (kL T) 16 encI emL 521 (loM sb b mo out (4 * j : Nat)) [] (mk1 M, C) X := by
  have hb := hR.1.1.o
  obtain ⟨M', C', y, kk, hY, hR', hm, ho', eW, h36, hk0, hout⟩ := wrapE (tb := fun e => if e = 2 then some 1 else if e = 1 then some 2 else none) (S := [1, 2]) hR (call_undo hR (by omega) (i32_of _) (i32_of _)) (EO.use (ex_fX11_undo b ((xs (ix ((4 * j : Nat) + (1 : Int)))).toInt) ((xs (ix ((4 * j : Nat) + (2 : Int)))).toInt) C)) (by decide) (GO.use (gr_fX11_undo b ((xs (ix ((4 * j : Nat) + (1 : Int)))).toInt) ((xs (ix ((4 * j : Nat) + (2 : Int)))).toInt) C)) ho.1 ho.2 hbo
  have q1 : inR ((4 * j : Nat) + (1 : Int)) Ls := inR_s (by omega) (by omega)
  have q2 : inR ((4 * j : Nat) + (2 : Int)) Ls := inR_s (by omega) (by omega)
  have q3 : inR ((4 * j : Nat) + (3 : Int)) Ls := inR_s (by omega) (by omega)
  refine ⟨M', C', hR', hm, ho', fun X K => ?_⟩
  refine r_aload_n (x := b) dL_law_521 rfl rfl ?_
  refine r_aload_n (x := sb) dL_law_522 rfl rfl ?_
  refine r_iload (x := (4 * j : Nat)) dL_law_523 rfl ?_
  refine ro_iconst (v := 1) dL_law_525 rfl ?_
  refine r_iadd dL_law_526 ?_
  refine r_xld hxs q1 dL_law_527 ?_
  refine r_aload_n (x := sb) dL_law_528 rfl rfl ?_
  refine r_iload (x := (4 * j : Nat)) dL_law_529 rfl ?_
  refine ro_iconst (v := 2) dL_law_531 rfl ?_
  refine r_iadd dL_law_532 ?_
  refine r_xld hxs q2 dL_law_533 ?_
  refine r_aload_n (x := out) dL_law_534 rfl rfl ?_
  refine ro_callW (r2 := kk) (σ2 := (mk1 M, C')) (As := [.ref b, wi ((xs (ix ((4 * j : Nat) + (1 : Int)))).toInt), wi ((xs (ix ((4 * j : Nat) + (2 : Int)))).toInt), .ref out]) (rest := []) (by rw [show fL_undo b ((xs (ix ((4 * j : Nat) + (1 : Int)))).toInt) ((xs (ix ((4 * j : Nat) + (2 : Int)))).toInt) out C = some (kk, C') from (if_pos hb).trans eW]; rfl) kv_L_undo (w_ct (c_L_undo hG hXN b ((xs (ix ((4 * j : Nat) + (1 : Int)))).toInt) ((xs (ix ((4 * j : Nat) + (2 : Int)))).toInt) out C)) (by decide) um_law_137 rfl (Nat.le_of_ble_eq_true rfl) dL_law_535 rfl ?_
  refine r_istore (x := kk) (lo2 := (5, wi kk) :: loM sb b mo out (4 * j : Nat)) dL_law_538 (show 5 < 7 by decide) rfl ?_
  refine r_aload_n (x := mo) dL_law_540 rfl rfl ?_
  refine r_aload_n (x := sb) dL_law_541 rfl rfl ?_
  refine r_iload (x := (4 * j : Nat)) dL_law_542 rfl ?_
  refine ro_iconst (v := 1) dL_law_544 rfl ?_
  refine r_iadd dL_law_545 ?_
  refine r_xld hxs q1 dL_law_546 ?_
  refine r_aload_n (x := sb) dL_law_547 rfl rfl ?_
  refine r_iload (x := (4 * j : Nat)) dL_law_548 rfl ?_
  refine ro_iconst (v := 2) dL_law_550 rfl ?_
  refine r_iadd dL_law_551 ?_
  refine r_xld hxs q2 dL_law_552 ?_
  refine ro_call0 hG (r2 := y) (σ2 := (mk1 M', C')) (v := some (wi y)) (X2 := (fX12_undo ((xs (ix ((4 * j : Nat) + (1 : Int)))).toInt) ((xs (ix ((4 * j : Nat) + (2 : Int)))).toInt) M).map (fun q => (q.1, (mk1 q.2, C')))) (by rw [hY]; rfl) rfl (m_ct (c_X12_undo (Γ := (b0, bG, cy, mCells cy mo (maA mo), g)) (mo := mo) (ma := maA mo) rfl ((xs (ix ((4 * j : Nat) + (1 : Int)))).toInt) ((xs (ix ((4 * j : Nat) + (2 : Int)))).toInt) M)) (inv_V (As := [wi ((xs (ix ((4 * j : Nat) + (1 : Int)))).toInt), wi ((xs (ix ((4 * j : Nat) + (2 : Int)))).toInt)]) (rest := []) kv_X12_undo (by decide) um_law_139 rfl (Nat.le_of_ble_eq_true rfl) dL_law_553 (fun H s hK hR => m_recL H s hK hR)) ?_
  refine r_istore (x := y) (lo2 := (6, wi y) :: (5, wi kk) :: loM sb b mo out (4 * j : Nat)) dL_law_556 (show 6 < 7 by decide) rfl ?_
  refine r_aload_n (x := mo) dL_law_558 rfl rfl ?_
  refine ro_call0 hG (r2 := M'.1 36) (σ2 := (mk1 M', C')) (v := some (wi (M'.1 36))) (X2 := (fX12_thrown M').map (fun q => (q.1, (mk1 q.2, C')))) rfl rfl (m_ct (c_X12_thrown (Γ := (b0, bG, cy, mCells cy mo (maA mo), g)) (mo := mo) (ma := maA mo) rfl M')) (inv_V (As := []) (rest := []) kv_X12_thrown (by decide) um_law_115 rfl (Nat.le_of_ble_eq_true rfl) dL_law_559 (fun H s hK hR => m_recL H s hK hR)) ?_
  refine r_iload (x := kk) dL_law_562 rfl ?_
  refine ro_t (c := w32 (M'.1 36) = w32 kk) (by rw [h36]) ?_
  refine r_icmp_eq (tgt := 569) dL_law_564 (by decide) ?_ ro_none
  refine r_iload (x := kk) dL_law_569 rfl ?_
  by_cases hz : kk = 0
  · refine ro_f (c := ¬ w32 kk = 0) (fun z => z (by rw [hz]; rfl)) ?_
    refine r_if_ne (tgt := 586) dL_law_571 (by decide) ro_none ?_
    refine r_aload_n (x := out) dL_law_574 rfl rfl ?_
    refine ro_iconst (v := 0) dL_law_575 rfl ?_
    refine r_lld ho'.1 (by rw [ho'.2]; decide) dL_law_576 ?_
    rw [show cE C' out (ix 0) = w32 y from hout hz]
    refine r_iload (x := y) dL_law_577 rfl ?_
    refine r_i2l dL_law_579 ?_
    refine r_lcmpE dL_law_580 ?_
    refine ro_t (c := w32 0 = 0) rfl ?_
    refine r_if_eq (tgt := 586) dL_law_581 (by decide) ?_ ro_none
    refine r_goto (tgt := 2122) dL_law_586 (by decide) ?_
    exact r_lo [2, 3, 4, 5, 6] (lo2 := loM sb b mo out (4 * j : Nat)) rfl K
  · refine ro_t (c := ¬ w32 kk = 0) (fun z => hz (w32_k0 hk0 z)) ?_
    refine r_if_ne (tgt := 586) dL_law_571 (by decide) ?_ ro_none
    refine r_goto (tgt := 2122) dL_law_586 (by decide) ?_
    exact r_lo [2, 3, 4, 5, 6] (lo2 := loM sb b mo out (4 * j : Nat)) rfl K
set_option maxHeartbeats 8000000 in
set_option maxRecDepth 100000 in
theorem case_bringIn {l : Launch} {b0 : Nat} {bG : va_G} {cy : Nat → ClassId} {g : State → Heap → Prop} {sb b mo out Ls kc j : Nat} {xs : Nat → Int32} {T : List ExceptionTableEntry} {M : Md} {C : Cd} {sT : Nat → Nat} (hG : GK (b0, bG, cy, fS cy mo, g) l) (hXN : XN (b0, bG, cy, fS cy mo, g)) (hS : STs (b0, bG, cy, fS cy mo, g) sT) (hxs : XScr (b0, bG, cy, fS cy mo, g) sb Ls xs) (hj : 4 * j + 4 ≤ Ls) (hLs : Ls ≤ 2048) (hR : RR b kc M C) (hk : kc < 512) (ho : isO C out 108 ∧ cn C out = 1) (hbo : b + 854 ≤ out) :
    ∃ M' C', RR b (kc + 1) M' C' ∧ RmL b C C' ∧ (isO C' out 108 ∧ cn C' out = 1) ∧ ∀ X : Option (Int × St), RunO l (b0, bG, cy, fS cy mo, g) (kL T) 16 encI emL 2122 (loM sb b mo out (4 * j : Nat)) [] (mk1 M', C') X → RunO l (b0, bG, cy, fS cy mo, g) (kL T) 16 encI emL 589 (loM sb b mo out (4 * j : Nat)) [] (mk1 M, C) X := by
  have hb := hR.1.1.o
  obtain ⟨M', C', y, kk, hY, hR', hm, ho', eW, h36, hk0, hout⟩ := wrapE (tb := fun e => if e = 2 then some 1 else if e = 0 then some 2 else if e = 1 then some 3 else none) (S := [0, 1, 2]) hR (call_bringIn hR (by omega) (i32_of _) (i32_of _)) (EO.use (ex_fX11_bringIn b ((xs (ix ((4 * j : Nat) + (1 : Int)))).toInt) ((xs (ix ((4 * j : Nat) + (2 : Int)))).toInt) C)) (by decide) (GO.use (gr_fX11_bringIn b ((xs (ix ((4 * j : Nat) + (1 : Int)))).toInt) ((xs (ix ((4 * j : Nat) + (2 : Int)))).toInt) C)) ho.1 ho.2 hbo
  have q1 : inR ((4 * j : Nat) + (1 : Int)) Ls := inR_s (by omega) (by omega)
  have q2 : inR ((4 * j : Nat) + (2 : Int)) Ls := inR_s (by omega) (by omega)
  have q3 : inR ((4 * j : Nat) + (3 : Int)) Ls := inR_s (by omega) (by omega)
  refine ⟨M', C', hR', hm, ho', fun X K => ?_⟩
  refine r_aload_n (x := b) dL_law_589 rfl rfl ?_
  refine r_aload_n (x := sb) dL_law_590 rfl rfl ?_
  refine r_iload (x := (4 * j : Nat)) dL_law_591 rfl ?_
  refine ro_iconst (v := 1) dL_law_593 rfl ?_
  refine r_iadd dL_law_594 ?_
  refine r_xld hxs q1 dL_law_595 ?_
  refine r_aload_n (x := sb) dL_law_596 rfl rfl ?_
  refine r_iload (x := (4 * j : Nat)) dL_law_597 rfl ?_
  refine ro_iconst (v := 2) dL_law_599 rfl ?_
  refine r_iadd dL_law_600 ?_
  refine r_xld hxs q2 dL_law_601 ?_
  refine r_aload_n (x := out) dL_law_602 rfl rfl ?_
  refine ro_callW (r2 := kk) (σ2 := (mk1 M, C')) (As := [.ref b, wi ((xs (ix ((4 * j : Nat) + (1 : Int)))).toInt), wi ((xs (ix ((4 * j : Nat) + (2 : Int)))).toInt), .ref out]) (rest := []) (by rw [show fL_bringIn b ((xs (ix ((4 * j : Nat) + (1 : Int)))).toInt) ((xs (ix ((4 * j : Nat) + (2 : Int)))).toInt) out C = some (kk, C') from (if_pos hb).trans eW]; rfl) kv_L_bringIn (w_ct (c_L_bringIn hG hXN b ((xs (ix ((4 * j : Nat) + (1 : Int)))).toInt) ((xs (ix ((4 * j : Nat) + (2 : Int)))).toInt) out C)) (by decide) um_law_140 rfl (Nat.le_of_ble_eq_true rfl) dL_law_603 rfl ?_
  refine r_istore (x := kk) (lo2 := (5, wi kk) :: loM sb b mo out (4 * j : Nat)) dL_law_606 (show 5 < 7 by decide) rfl ?_
  refine r_aload_n (x := mo) dL_law_608 rfl rfl ?_
  refine r_aload_n (x := sb) dL_law_609 rfl rfl ?_
  refine r_iload (x := (4 * j : Nat)) dL_law_610 rfl ?_
  refine ro_iconst (v := 1) dL_law_612 rfl ?_
  refine r_iadd dL_law_613 ?_
  refine r_xld hxs q1 dL_law_614 ?_
  refine r_aload_n (x := sb) dL_law_615 rfl rfl ?_
  refine r_iload (x := (4 * j : Nat)) dL_law_616 rfl ?_
  refine ro_iconst (v := 2) dL_law_618 rfl ?_
  refine r_iadd dL_law_619 ?_
  refine r_xld hxs q2 dL_law_620 ?_
  refine ro_call0 hG (r2 := y) (σ2 := (mk1 M', C')) (v := some (wi y)) (X2 := (fX12_bringIn ((xs (ix ((4 * j : Nat) + (1 : Int)))).toInt) ((xs (ix ((4 * j : Nat) + (2 : Int)))).toInt) M).map (fun q => (q.1, (mk1 q.2, C')))) (by rw [hY]; rfl) rfl (m_ct (c_X12_bringIn (Γ := (b0, bG, cy, mCells cy mo (maA mo), g)) (mo := mo) (ma := maA mo) rfl ((xs (ix ((4 * j : Nat) + (1 : Int)))).toInt) ((xs (ix ((4 * j : Nat) + (2 : Int)))).toInt) M)) (inv_V (As := [wi ((xs (ix ((4 * j : Nat) + (1 : Int)))).toInt), wi ((xs (ix ((4 * j : Nat) + (2 : Int)))).toInt)]) (rest := []) kv_X12_bringIn (by decide) um_law_142 rfl (Nat.le_of_ble_eq_true rfl) dL_law_621 (fun H s hK hR => m_recL H s hK hR)) ?_
  refine r_istore (x := y) (lo2 := (6, wi y) :: (5, wi kk) :: loM sb b mo out (4 * j : Nat)) dL_law_624 (show 6 < 7 by decide) rfl ?_
  refine r_aload_n (x := mo) dL_law_626 rfl rfl ?_
  refine ro_call0 hG (r2 := M'.1 36) (σ2 := (mk1 M', C')) (v := some (wi (M'.1 36))) (X2 := (fX12_thrown M').map (fun q => (q.1, (mk1 q.2, C')))) rfl rfl (m_ct (c_X12_thrown (Γ := (b0, bG, cy, mCells cy mo (maA mo), g)) (mo := mo) (ma := maA mo) rfl M')) (inv_V (As := []) (rest := []) kv_X12_thrown (by decide) um_law_115 rfl (Nat.le_of_ble_eq_true rfl) dL_law_627 (fun H s hK hR => m_recL H s hK hR)) ?_
  refine r_iload (x := kk) dL_law_630 rfl ?_
  refine ro_t (c := w32 (M'.1 36) = w32 kk) (by rw [h36]) ?_
  refine r_icmp_eq (tgt := 637) dL_law_632 (by decide) ?_ ro_none
  refine r_iload (x := kk) dL_law_637 rfl ?_
  by_cases hz : kk = 0
  · refine ro_f (c := ¬ w32 kk = 0) (fun z => z (by rw [hz]; rfl)) ?_
    refine r_if_ne (tgt := 654) dL_law_639 (by decide) ro_none ?_
    refine r_aload_n (x := out) dL_law_642 rfl rfl ?_
    refine ro_iconst (v := 0) dL_law_643 rfl ?_
    refine r_lld ho'.1 (by rw [ho'.2]; decide) dL_law_644 ?_
    rw [show cE C' out (ix 0) = w32 y from hout hz]
    refine r_iload (x := y) dL_law_645 rfl ?_
    refine r_i2l dL_law_647 ?_
    refine r_lcmpE dL_law_648 ?_
    refine ro_t (c := w32 0 = 0) rfl ?_
    refine r_if_eq (tgt := 654) dL_law_649 (by decide) ?_ ro_none
    refine r_goto (tgt := 2122) dL_law_654 (by decide) ?_
    exact r_lo [2, 3, 4, 5, 6] (lo2 := loM sb b mo out (4 * j : Nat)) rfl K
  · refine ro_t (c := ¬ w32 kk = 0) (fun z => hz (w32_k0 hk0 z)) ?_
    refine r_if_ne (tgt := 654) dL_law_639 (by decide) ?_ ro_none
    refine r_goto (tgt := 2122) dL_law_654 (by decide) ?_
    exact r_lo [2, 3, 4, 5, 6] (lo2 := loM sb b mo out (4 * j : Nat)) rfl K
set_option maxHeartbeats 8000000 in
set_option maxRecDepth 100000 in
theorem case_move {l : Launch} {b0 : Nat} {bG : va_G} {cy : Nat → ClassId} {g : State → Heap → Prop} {sb b mo out Ls kc j : Nat} {xs : Nat → Int32} {T : List ExceptionTableEntry} {M : Md} {C : Cd} {sT : Nat → Nat} (hG : GK (b0, bG, cy, fS cy mo, g) l) (hXN : XN (b0, bG, cy, fS cy mo, g)) (hS : STs (b0, bG, cy, fS cy mo, g) sT) (hxs : XScr (b0, bG, cy, fS cy mo, g) sb Ls xs) (hj : 4 * j + 4 ≤ Ls) (hLs : Ls ≤ 2048) (hR : RR b kc M C) (hk : kc < 512) (ho : isO C out 108 ∧ cn C out = 1) (hbo : b + 854 ≤ out) :
    ∃ M' C', RR b (kc + 1) M' C' ∧ RmL b C C' ∧ (isO C' out 108 ∧ cn C' out = 1) ∧ ∀ X : Option (Int × St), RunO l (b0, bG, cy, fS cy mo, g) (kL T) 16 encI emL 2122 (loM sb b mo out (4 * j : Nat)) [] (mk1 M', C') X → RunO l (b0, bG, cy, fS cy mo, g) (kL T) 16 encI emL 657 (loM sb b mo out (4 * j : Nat)) [] (mk1 M, C) X := by
  have hb := hR.1.1.o
  obtain ⟨M', C', y, kk, hY, hR', hm, ho', eW, h36, hk0, hout⟩ := wrapE (tb := fun e => if e = 2 then some 1 else if e = 1 then some 2 else none) (S := [1, 2]) hR (call_move hR (by omega) (i32_of _) (i32_of _)) (EO.use (ex_fX11_move b ((xs (ix ((4 * j : Nat) + (1 : Int)))).toInt) ((xs (ix ((4 * j : Nat) + (2 : Int)))).toInt) C)) (by decide) (GO.use (gr_fX11_move b ((xs (ix ((4 * j : Nat) + (1 : Int)))).toInt) ((xs (ix ((4 * j : Nat) + (2 : Int)))).toInt) C)) ho.1 ho.2 hbo
  have q1 : inR ((4 * j : Nat) + (1 : Int)) Ls := inR_s (by omega) (by omega)
  have q2 : inR ((4 * j : Nat) + (2 : Int)) Ls := inR_s (by omega) (by omega)
  have q3 : inR ((4 * j : Nat) + (3 : Int)) Ls := inR_s (by omega) (by omega)
  refine ⟨M', C', hR', hm, ho', fun X K => ?_⟩
  refine r_aload_n (x := b) dL_law_657 rfl rfl ?_
  refine r_aload_n (x := sb) dL_law_658 rfl rfl ?_
  refine r_iload (x := (4 * j : Nat)) dL_law_659 rfl ?_
  refine ro_iconst (v := 1) dL_law_661 rfl ?_
  refine r_iadd dL_law_662 ?_
  refine r_xld hxs q1 dL_law_663 ?_
  refine r_aload_n (x := sb) dL_law_664 rfl rfl ?_
  refine r_iload (x := (4 * j : Nat)) dL_law_665 rfl ?_
  refine ro_iconst (v := 2) dL_law_667 rfl ?_
  refine r_iadd dL_law_668 ?_
  refine r_xld hxs q2 dL_law_669 ?_
  refine r_aload_n (x := out) dL_law_670 rfl rfl ?_
  refine ro_callW (r2 := kk) (σ2 := (mk1 M, C')) (As := [.ref b, wi ((xs (ix ((4 * j : Nat) + (1 : Int)))).toInt), wi ((xs (ix ((4 * j : Nat) + (2 : Int)))).toInt), .ref out]) (rest := []) (by rw [show fL_move b ((xs (ix ((4 * j : Nat) + (1 : Int)))).toInt) ((xs (ix ((4 * j : Nat) + (2 : Int)))).toInt) out C = some (kk, C') from (if_pos hb).trans eW]; rfl) kv_L_move (w_ct (c_L_move hG hXN b ((xs (ix ((4 * j : Nat) + (1 : Int)))).toInt) ((xs (ix ((4 * j : Nat) + (2 : Int)))).toInt) out C)) (by decide) um_law_143 rfl (Nat.le_of_ble_eq_true rfl) dL_law_671 rfl ?_
  refine r_istore (x := kk) (lo2 := (5, wi kk) :: loM sb b mo out (4 * j : Nat)) dL_law_674 (show 5 < 7 by decide) rfl ?_
  refine r_aload_n (x := mo) dL_law_676 rfl rfl ?_
  refine r_aload_n (x := sb) dL_law_677 rfl rfl ?_
  refine r_iload (x := (4 * j : Nat)) dL_law_678 rfl ?_
  refine ro_iconst (v := 1) dL_law_680 rfl ?_
  refine r_iadd dL_law_681 ?_
  refine r_xld hxs q1 dL_law_682 ?_
  refine r_aload_n (x := sb) dL_law_683 rfl rfl ?_
  refine r_iload (x := (4 * j : Nat)) dL_law_684 rfl ?_
  refine ro_iconst (v := 2) dL_law_686 rfl ?_
  refine r_iadd dL_law_687 ?_
  refine r_xld hxs q2 dL_law_688 ?_
  refine ro_call0 hG (r2 := y) (σ2 := (mk1 M', C')) (v := some (wi y)) (X2 := (fX12_move ((xs (ix ((4 * j : Nat) + (1 : Int)))).toInt) ((xs (ix ((4 * j : Nat) + (2 : Int)))).toInt) M).map (fun q => (q.1, (mk1 q.2, C')))) (by rw [hY]; rfl) rfl (m_ct (c_X12_move (Γ := (b0, bG, cy, mCells cy mo (maA mo), g)) (mo := mo) (ma := maA mo) rfl ((xs (ix ((4 * j : Nat) + (1 : Int)))).toInt) ((xs (ix ((4 * j : Nat) + (2 : Int)))).toInt) M)) (inv_V (As := [wi ((xs (ix ((4 * j : Nat) + (1 : Int)))).toInt), wi ((xs (ix ((4 * j : Nat) + (2 : Int)))).toInt)]) (rest := []) kv_X12_move (by decide) um_law_145 rfl (Nat.le_of_ble_eq_true rfl) dL_law_689 (fun H s hK hR => m_recL H s hK hR)) ?_
  refine r_istore (x := y) (lo2 := (6, wi y) :: (5, wi kk) :: loM sb b mo out (4 * j : Nat)) dL_law_692 (show 6 < 7 by decide) rfl ?_
  refine r_aload_n (x := mo) dL_law_694 rfl rfl ?_
  refine ro_call0 hG (r2 := M'.1 36) (σ2 := (mk1 M', C')) (v := some (wi (M'.1 36))) (X2 := (fX12_thrown M').map (fun q => (q.1, (mk1 q.2, C')))) rfl rfl (m_ct (c_X12_thrown (Γ := (b0, bG, cy, mCells cy mo (maA mo), g)) (mo := mo) (ma := maA mo) rfl M')) (inv_V (As := []) (rest := []) kv_X12_thrown (by decide) um_law_115 rfl (Nat.le_of_ble_eq_true rfl) dL_law_695 (fun H s hK hR => m_recL H s hK hR)) ?_
  refine r_iload (x := kk) dL_law_698 rfl ?_
  refine ro_t (c := w32 (M'.1 36) = w32 kk) (by rw [h36]) ?_
  refine r_icmp_eq (tgt := 705) dL_law_700 (by decide) ?_ ro_none
  refine r_iload (x := kk) dL_law_705 rfl ?_
  by_cases hz : kk = 0
  · refine ro_f (c := ¬ w32 kk = 0) (fun z => z (by rw [hz]; rfl)) ?_
    refine r_if_ne (tgt := 722) dL_law_707 (by decide) ro_none ?_
    refine r_aload_n (x := out) dL_law_710 rfl rfl ?_
    refine ro_iconst (v := 0) dL_law_711 rfl ?_
    refine r_lld ho'.1 (by rw [ho'.2]; decide) dL_law_712 ?_
    rw [show cE C' out (ix 0) = w32 y from hout hz]
    refine r_iload (x := y) dL_law_713 rfl ?_
    refine r_i2l dL_law_715 ?_
    refine r_lcmpE dL_law_716 ?_
    refine ro_t (c := w32 0 = 0) rfl ?_
    refine r_if_eq (tgt := 722) dL_law_717 (by decide) ?_ ro_none
    refine r_goto (tgt := 2122) dL_law_722 (by decide) ?_
    exact r_lo [2, 3, 4, 5, 6] (lo2 := loM sb b mo out (4 * j : Nat)) rfl K
  · refine ro_t (c := ¬ w32 kk = 0) (fun z => hz (w32_k0 hk0 z)) ?_
    refine r_if_ne (tgt := 722) dL_law_707 (by decide) ?_ ro_none
    refine r_goto (tgt := 2122) dL_law_722 (by decide) ?_
    exact r_lo [2, 3, 4, 5, 6] (lo2 := loM sb b mo out (4 * j : Nat)) rfl K
set_option maxHeartbeats 8000000 in
set_option maxRecDepth 100000 in
theorem case_moveTree {l : Launch} {b0 : Nat} {bG : va_G} {cy : Nat → ClassId} {g : State → Heap → Prop} {sb b mo out Ls kc j : Nat} {xs : Nat → Int32} {T : List ExceptionTableEntry} {M : Md} {C : Cd} {sT : Nat → Nat} (hG : GK (b0, bG, cy, fS cy mo, g) l) (hXN : XN (b0, bG, cy, fS cy mo, g)) (hS : STs (b0, bG, cy, fS cy mo, g) sT) (hxs : XScr (b0, bG, cy, fS cy mo, g) sb Ls xs) (hj : 4 * j + 4 ≤ Ls) (hLs : Ls ≤ 2048) (hR : RR b kc M C) (hk : kc < 512) (ho : isO C out 108 ∧ cn C out = 1) (hbo : b + 854 ≤ out) :
    ∃ M' C', RR b (kc + 1) M' C' ∧ RmL b C C' ∧ (isO C' out 108 ∧ cn C' out = 1) ∧ ∀ X : Option (Int × St), RunO l (b0, bG, cy, fS cy mo, g) (kL T) 16 encI emL 2122 (loM sb b mo out (4 * j : Nat)) [] (mk1 M', C') X → RunO l (b0, bG, cy, fS cy mo, g) (kL T) 16 encI emL 725 (loM sb b mo out (4 * j : Nat)) [] (mk1 M, C) X := by
  have hb := hR.1.1.o
  obtain ⟨M', C', y, kk, hY, hR', hm, ho', eW, h36, hk0, hout⟩ := wrapE (tb := fun e => if e = 2 then some 1 else if e = 1 then some 2 else none) (S := [1, 2]) hR (call_moveTree hR (by omega) (i32_of _) (i32_of _)) (EO.use (ex_fX11_moveTree b ((xs (ix ((4 * j : Nat) + (1 : Int)))).toInt) ((xs (ix ((4 * j : Nat) + (2 : Int)))).toInt) C)) (by decide) (GO.use (gr_fX11_moveTree b ((xs (ix ((4 * j : Nat) + (1 : Int)))).toInt) ((xs (ix ((4 * j : Nat) + (2 : Int)))).toInt) C)) ho.1 ho.2 hbo
  have q1 : inR ((4 * j : Nat) + (1 : Int)) Ls := inR_s (by omega) (by omega)
  have q2 : inR ((4 * j : Nat) + (2 : Int)) Ls := inR_s (by omega) (by omega)
  have q3 : inR ((4 * j : Nat) + (3 : Int)) Ls := inR_s (by omega) (by omega)
  refine ⟨M', C', hR', hm, ho', fun X K => ?_⟩
  refine r_aload_n (x := b) dL_law_725 rfl rfl ?_
  refine r_aload_n (x := sb) dL_law_726 rfl rfl ?_
  refine r_iload (x := (4 * j : Nat)) dL_law_727 rfl ?_
  refine ro_iconst (v := 1) dL_law_729 rfl ?_
  refine r_iadd dL_law_730 ?_
  refine r_xld hxs q1 dL_law_731 ?_
  refine r_aload_n (x := sb) dL_law_732 rfl rfl ?_
  refine r_iload (x := (4 * j : Nat)) dL_law_733 rfl ?_
  refine ro_iconst (v := 2) dL_law_735 rfl ?_
  refine r_iadd dL_law_736 ?_
  refine r_xld hxs q2 dL_law_737 ?_
  refine r_aload_n (x := out) dL_law_738 rfl rfl ?_
  refine ro_callW (r2 := kk) (σ2 := (mk1 M, C')) (As := [.ref b, wi ((xs (ix ((4 * j : Nat) + (1 : Int)))).toInt), wi ((xs (ix ((4 * j : Nat) + (2 : Int)))).toInt), .ref out]) (rest := []) (by rw [show fL_moveTree b ((xs (ix ((4 * j : Nat) + (1 : Int)))).toInt) ((xs (ix ((4 * j : Nat) + (2 : Int)))).toInt) out C = some (kk, C') from (if_pos hb).trans eW]; rfl) kv_L_moveTree (w_ct (c_L_moveTree hG hXN b ((xs (ix ((4 * j : Nat) + (1 : Int)))).toInt) ((xs (ix ((4 * j : Nat) + (2 : Int)))).toInt) out C)) (by decide) um_law_146 rfl (Nat.le_of_ble_eq_true rfl) dL_law_739 rfl ?_
  refine r_istore (x := kk) (lo2 := (5, wi kk) :: loM sb b mo out (4 * j : Nat)) dL_law_742 (show 5 < 7 by decide) rfl ?_
  refine r_aload_n (x := mo) dL_law_744 rfl rfl ?_
  refine r_aload_n (x := sb) dL_law_745 rfl rfl ?_
  refine r_iload (x := (4 * j : Nat)) dL_law_746 rfl ?_
  refine ro_iconst (v := 1) dL_law_748 rfl ?_
  refine r_iadd dL_law_749 ?_
  refine r_xld hxs q1 dL_law_750 ?_
  refine r_aload_n (x := sb) dL_law_751 rfl rfl ?_
  refine r_iload (x := (4 * j : Nat)) dL_law_752 rfl ?_
  refine ro_iconst (v := 2) dL_law_754 rfl ?_
  refine r_iadd dL_law_755 ?_
  refine r_xld hxs q2 dL_law_756 ?_
  refine ro_call0 hG (r2 := y) (σ2 := (mk1 M', C')) (v := some (wi y)) (X2 := (fX12_moveTree ((xs (ix ((4 * j : Nat) + (1 : Int)))).toInt) ((xs (ix ((4 * j : Nat) + (2 : Int)))).toInt) M).map (fun q => (q.1, (mk1 q.2, C')))) (by rw [hY]; rfl) rfl (m_ct (c_X12_moveTree (Γ := (b0, bG, cy, mCells cy mo (maA mo), g)) (mo := mo) (ma := maA mo) rfl ((xs (ix ((4 * j : Nat) + (1 : Int)))).toInt) ((xs (ix ((4 * j : Nat) + (2 : Int)))).toInt) M)) (inv_V (As := [wi ((xs (ix ((4 * j : Nat) + (1 : Int)))).toInt), wi ((xs (ix ((4 * j : Nat) + (2 : Int)))).toInt)]) (rest := []) kv_X12_moveTree (by decide) um_law_148 rfl (Nat.le_of_ble_eq_true rfl) dL_law_757 (fun H s hK hR => m_recL H s hK hR)) ?_
  refine r_istore (x := y) (lo2 := (6, wi y) :: (5, wi kk) :: loM sb b mo out (4 * j : Nat)) dL_law_760 (show 6 < 7 by decide) rfl ?_
  refine r_aload_n (x := mo) dL_law_762 rfl rfl ?_
  refine ro_call0 hG (r2 := M'.1 36) (σ2 := (mk1 M', C')) (v := some (wi (M'.1 36))) (X2 := (fX12_thrown M').map (fun q => (q.1, (mk1 q.2, C')))) rfl rfl (m_ct (c_X12_thrown (Γ := (b0, bG, cy, mCells cy mo (maA mo), g)) (mo := mo) (ma := maA mo) rfl M')) (inv_V (As := []) (rest := []) kv_X12_thrown (by decide) um_law_115 rfl (Nat.le_of_ble_eq_true rfl) dL_law_763 (fun H s hK hR => m_recL H s hK hR)) ?_
  refine r_iload (x := kk) dL_law_766 rfl ?_
  refine ro_t (c := w32 (M'.1 36) = w32 kk) (by rw [h36]) ?_
  refine r_icmp_eq (tgt := 773) dL_law_768 (by decide) ?_ ro_none
  refine r_iload (x := kk) dL_law_773 rfl ?_
  by_cases hz : kk = 0
  · refine ro_f (c := ¬ w32 kk = 0) (fun z => z (by rw [hz]; rfl)) ?_
    refine r_if_ne (tgt := 790) dL_law_775 (by decide) ro_none ?_
    refine r_aload_n (x := out) dL_law_778 rfl rfl ?_
    refine ro_iconst (v := 0) dL_law_779 rfl ?_
    refine r_lld ho'.1 (by rw [ho'.2]; decide) dL_law_780 ?_
    rw [show cE C' out (ix 0) = w32 y from hout hz]
    refine r_iload (x := y) dL_law_781 rfl ?_
    refine r_i2l dL_law_783 ?_
    refine r_lcmpE dL_law_784 ?_
    refine ro_t (c := w32 0 = 0) rfl ?_
    refine r_if_eq (tgt := 790) dL_law_785 (by decide) ?_ ro_none
    refine r_goto (tgt := 2122) dL_law_790 (by decide) ?_
    exact r_lo [2, 3, 4, 5, 6] (lo2 := loM sb b mo out (4 * j : Nat)) rfl K
  · refine ro_t (c := ¬ w32 kk = 0) (fun z => hz (w32_k0 hk0 z)) ?_
    refine r_if_ne (tgt := 790) dL_law_775 (by decide) ?_ ro_none
    refine r_goto (tgt := 2122) dL_law_790 (by decide) ?_
    exact r_lo [2, 3, 4, 5, 6] (lo2 := loM sb b mo out (4 * j : Nat)) rfl K
set_option maxHeartbeats 8000000 in
set_option maxRecDepth 100000 in
theorem case_approve {l : Launch} {b0 : Nat} {bG : va_G} {cy : Nat → ClassId} {g : State → Heap → Prop} {sb b mo out Ls kc j : Nat} {xs : Nat → Int32} {T : List ExceptionTableEntry} {M : Md} {C : Cd} {sT : Nat → Nat} (hG : GK (b0, bG, cy, fS cy mo, g) l) (hXN : XN (b0, bG, cy, fS cy mo, g)) (hS : STs (b0, bG, cy, fS cy mo, g) sT) (hxs : XScr (b0, bG, cy, fS cy mo, g) sb Ls xs) (hj : 4 * j + 4 ≤ Ls) (hLs : Ls ≤ 2048) (hR : RR b kc M C) (hk : kc < 512) (ho : isO C out 108 ∧ cn C out = 1) (hbo : b + 854 ≤ out) :
    ∃ M' C', RR b (kc + 1) M' C' ∧ RmL b C C' ∧ (isO C' out 108 ∧ cn C' out = 1) ∧ ∀ X : Option (Int × St), RunO l (b0, bG, cy, fS cy mo, g) (kL T) 16 encI emL 2122 (loM sb b mo out (4 * j : Nat)) [] (mk1 M', C') X → RunO l (b0, bG, cy, fS cy mo, g) (kL T) 16 encI emL 793 (loM sb b mo out (4 * j : Nat)) [] (mk1 M, C) X := by
  have hb := hR.1.1.o
  obtain ⟨M', C', y, kk, hY, hR', hm, ho', eW, h36, hk0, hout⟩ := wrapE (tb := fun e => if e = 2 then some 1 else if e = 1 then some 2 else none) (S := [1, 2]) hR (call_approve hR (by omega) (i32_of _)) (EO.use (ex_fX11_approve b ((xs (ix ((4 * j : Nat) + (1 : Int)))).toInt) C)) (by decide) (GO.use (gr_fX11_approve b ((xs (ix ((4 * j : Nat) + (1 : Int)))).toInt) C)) ho.1 ho.2 hbo
  have q1 : inR ((4 * j : Nat) + (1 : Int)) Ls := inR_s (by omega) (by omega)
  have q2 : inR ((4 * j : Nat) + (2 : Int)) Ls := inR_s (by omega) (by omega)
  have q3 : inR ((4 * j : Nat) + (3 : Int)) Ls := inR_s (by omega) (by omega)
  refine ⟨M', C', hR', hm, ho', fun X K => ?_⟩
  refine r_aload_n (x := b) dL_law_793 rfl rfl ?_
  refine r_aload_n (x := sb) dL_law_794 rfl rfl ?_
  refine r_iload (x := (4 * j : Nat)) dL_law_795 rfl ?_
  refine ro_iconst (v := 1) dL_law_797 rfl ?_
  refine r_iadd dL_law_798 ?_
  refine r_xld hxs q1 dL_law_799 ?_
  refine r_aload_n (x := out) dL_law_800 rfl rfl ?_
  refine ro_callW (r2 := kk) (σ2 := (mk1 M, C')) (As := [.ref b, wi ((xs (ix ((4 * j : Nat) + (1 : Int)))).toInt), .ref out]) (rest := []) (by rw [show fL_approve b ((xs (ix ((4 * j : Nat) + (1 : Int)))).toInt) out C = some (kk, C') from (if_pos hb).trans eW]; rfl) kv_L_approve (w_ct (c_L_approve hG hXN b ((xs (ix ((4 * j : Nat) + (1 : Int)))).toInt) out C)) (by decide) um_law_149 rfl (Nat.le_of_ble_eq_true rfl) dL_law_801 rfl ?_
  refine r_istore (x := kk) (lo2 := (5, wi kk) :: loM sb b mo out (4 * j : Nat)) dL_law_804 (show 5 < 7 by decide) rfl ?_
  refine r_aload_n (x := mo) dL_law_806 rfl rfl ?_
  refine r_aload_n (x := sb) dL_law_807 rfl rfl ?_
  refine r_iload (x := (4 * j : Nat)) dL_law_808 rfl ?_
  refine ro_iconst (v := 1) dL_law_810 rfl ?_
  refine r_iadd dL_law_811 ?_
  refine r_xld hxs q1 dL_law_812 ?_
  refine ro_call0 hG (r2 := y) (σ2 := (mk1 M', C')) (v := some (wi y)) (X2 := (fX12_approve ((xs (ix ((4 * j : Nat) + (1 : Int)))).toInt) M).map (fun q => (q.1, (mk1 q.2, C')))) (by rw [hY]; rfl) rfl (m_ct (c_X12_approve (Γ := (b0, bG, cy, mCells cy mo (maA mo), g)) (mo := mo) (ma := maA mo) rfl ((xs (ix ((4 * j : Nat) + (1 : Int)))).toInt) M)) (inv_V (As := [wi ((xs (ix ((4 * j : Nat) + (1 : Int)))).toInt)]) (rest := []) kv_X12_approve (by decide) um_law_151 rfl (Nat.le_of_ble_eq_true rfl) dL_law_813 (fun H s hK hR => m_recL H s hK hR)) ?_
  refine r_istore (x := y) (lo2 := (6, wi y) :: (5, wi kk) :: loM sb b mo out (4 * j : Nat)) dL_law_816 (show 6 < 7 by decide) rfl ?_
  refine r_aload_n (x := mo) dL_law_818 rfl rfl ?_
  refine ro_call0 hG (r2 := M'.1 36) (σ2 := (mk1 M', C')) (v := some (wi (M'.1 36))) (X2 := (fX12_thrown M').map (fun q => (q.1, (mk1 q.2, C')))) rfl rfl (m_ct (c_X12_thrown (Γ := (b0, bG, cy, mCells cy mo (maA mo), g)) (mo := mo) (ma := maA mo) rfl M')) (inv_V (As := []) (rest := []) kv_X12_thrown (by decide) um_law_115 rfl (Nat.le_of_ble_eq_true rfl) dL_law_819 (fun H s hK hR => m_recL H s hK hR)) ?_
  refine r_iload (x := kk) dL_law_822 rfl ?_
  refine ro_t (c := w32 (M'.1 36) = w32 kk) (by rw [h36]) ?_
  refine r_icmp_eq (tgt := 829) dL_law_824 (by decide) ?_ ro_none
  refine r_iload (x := kk) dL_law_829 rfl ?_
  by_cases hz : kk = 0
  · refine ro_f (c := ¬ w32 kk = 0) (fun z => z (by rw [hz]; rfl)) ?_
    refine r_if_ne (tgt := 846) dL_law_831 (by decide) ro_none ?_
    refine r_aload_n (x := out) dL_law_834 rfl rfl ?_
    refine ro_iconst (v := 0) dL_law_835 rfl ?_
    refine r_lld ho'.1 (by rw [ho'.2]; decide) dL_law_836 ?_
    rw [show cE C' out (ix 0) = w32 y from hout hz]
    refine r_iload (x := y) dL_law_837 rfl ?_
    refine r_i2l dL_law_839 ?_
    refine r_lcmpE dL_law_840 ?_
    refine ro_t (c := w32 0 = 0) rfl ?_
    refine r_if_eq (tgt := 846) dL_law_841 (by decide) ?_ ro_none
    refine r_goto (tgt := 2122) dL_law_846 (by decide) ?_
    exact r_lo [2, 3, 4, 5, 6] (lo2 := loM sb b mo out (4 * j : Nat)) rfl K
  · refine ro_t (c := ¬ w32 kk = 0) (fun z => hz (w32_k0 hk0 z)) ?_
    refine r_if_ne (tgt := 846) dL_law_831 (by decide) ?_ ro_none
    refine r_goto (tgt := 2122) dL_law_846 (by decide) ?_
    exact r_lo [2, 3, 4, 5, 6] (lo2 := loM sb b mo out (4 * j : Nat)) rfl K
set_option maxHeartbeats 8000000 in
set_option maxRecDepth 100000 in
theorem case_translate {l : Launch} {b0 : Nat} {bG : va_G} {cy : Nat → ClassId} {g : State → Heap → Prop} {sb b mo out Ls kc j : Nat} {xs : Nat → Int32} {T : List ExceptionTableEntry} {M : Md} {C : Cd} {sT : Nat → Nat} (hG : GK (b0, bG, cy, fS cy mo, g) l) (hXN : XN (b0, bG, cy, fS cy mo, g)) (hS : STs (b0, bG, cy, fS cy mo, g) sT) (hxs : XScr (b0, bG, cy, fS cy mo, g) sb Ls xs) (hj : 4 * j + 4 ≤ Ls) (hLs : Ls ≤ 2048) (hR : RR b kc M C) (hk : kc < 512) (ho : isO C out 108 ∧ cn C out = 1) (hbo : b + 854 ≤ out) :
    ∃ M' C', RR b (kc + 1) M' C' ∧ RmL b C C' ∧ (isO C' out 108 ∧ cn C' out = 1) ∧ ∀ X : Option (Int × St), RunO l (b0, bG, cy, fS cy mo, g) (kL T) 16 encI emL 2122 (loM sb b mo out (4 * j : Nat)) [] (mk1 M', C') X → RunO l (b0, bG, cy, fS cy mo, g) (kL T) 16 encI emL 849 (loM sb b mo out (4 * j : Nat)) [] (mk1 M, C) X := by
  have hb := hR.1.1.o
  obtain ⟨M', C', y, kk, hY, hR', hm, ho', eW, h36, hk0, hout⟩ := wrapE (tb := fun e => if e = 2 then some 1 else if e = 0 then some 2 else none) (S := [0, 2]) hR (call_translate hR (i32_of _) (i32_of _) (i32_of _)) (EO.use (ex_fX11_translate b ((xs (ix ((4 * j : Nat) + (1 : Int)))).toInt) ((xs (ix ((4 * j : Nat) + (2 : Int)))).toInt) ((xs (ix ((4 * j : Nat) + (3 : Int)))).toInt) C)) (by decide) (GO.use (gr_fX11_translate b ((xs (ix ((4 * j : Nat) + (1 : Int)))).toInt) ((xs (ix ((4 * j : Nat) + (2 : Int)))).toInt) ((xs (ix ((4 * j : Nat) + (3 : Int)))).toInt) C)) ho.1 ho.2 hbo
  have q1 : inR ((4 * j : Nat) + (1 : Int)) Ls := inR_s (by omega) (by omega)
  have q2 : inR ((4 * j : Nat) + (2 : Int)) Ls := inR_s (by omega) (by omega)
  have q3 : inR ((4 * j : Nat) + (3 : Int)) Ls := inR_s (by omega) (by omega)
  refine ⟨M', C', hR', hm, ho', fun X K => ?_⟩
  refine r_aload_n (x := b) dL_law_849 rfl rfl ?_
  refine r_aload_n (x := sb) dL_law_850 rfl rfl ?_
  refine r_iload (x := (4 * j : Nat)) dL_law_851 rfl ?_
  refine ro_iconst (v := 1) dL_law_853 rfl ?_
  refine r_iadd dL_law_854 ?_
  refine r_xld hxs q1 dL_law_855 ?_
  refine r_aload_n (x := sb) dL_law_856 rfl rfl ?_
  refine r_iload (x := (4 * j : Nat)) dL_law_857 rfl ?_
  refine ro_iconst (v := 2) dL_law_859 rfl ?_
  refine r_iadd dL_law_860 ?_
  refine r_xld hxs q2 dL_law_861 ?_
  refine r_aload_n (x := sb) dL_law_862 rfl rfl ?_
  refine r_iload (x := (4 * j : Nat)) dL_law_863 rfl ?_
  refine ro_iconst (v := 3) dL_law_865 rfl ?_
  refine r_iadd dL_law_866 ?_
  refine r_xld hxs q3 dL_law_867 ?_
  refine r_aload_n (x := out) dL_law_868 rfl rfl ?_
  refine ro_callW (r2 := kk) (σ2 := (mk1 M, C')) (As := [.ref b, wi ((xs (ix ((4 * j : Nat) + (1 : Int)))).toInt), wi ((xs (ix ((4 * j : Nat) + (2 : Int)))).toInt), wi ((xs (ix ((4 * j : Nat) + (3 : Int)))).toInt), .ref out]) (rest := []) (by rw [show fL_translate b ((xs (ix ((4 * j : Nat) + (1 : Int)))).toInt) ((xs (ix ((4 * j : Nat) + (2 : Int)))).toInt) ((xs (ix ((4 * j : Nat) + (3 : Int)))).toInt) out C = some (kk, C') from (if_pos hb).trans eW]; rfl) kv_L_translate (w_ct (c_L_translate hG hXN b ((xs (ix ((4 * j : Nat) + (1 : Int)))).toInt) ((xs (ix ((4 * j : Nat) + (2 : Int)))).toInt) ((xs (ix ((4 * j : Nat) + (3 : Int)))).toInt) out C)) (by decide) um_law_152 rfl (Nat.le_of_ble_eq_true rfl) dL_law_869 rfl ?_
  refine r_istore (x := kk) (lo2 := (5, wi kk) :: loM sb b mo out (4 * j : Nat)) dL_law_872 (show 5 < 7 by decide) rfl ?_
  refine r_aload_n (x := mo) dL_law_874 rfl rfl ?_
  refine r_aload_n (x := sb) dL_law_875 rfl rfl ?_
  refine r_iload (x := (4 * j : Nat)) dL_law_876 rfl ?_
  refine ro_iconst (v := 1) dL_law_878 rfl ?_
  refine r_iadd dL_law_879 ?_
  refine r_xld hxs q1 dL_law_880 ?_
  refine r_aload_n (x := sb) dL_law_881 rfl rfl ?_
  refine r_iload (x := (4 * j : Nat)) dL_law_882 rfl ?_
  refine ro_iconst (v := 2) dL_law_884 rfl ?_
  refine r_iadd dL_law_885 ?_
  refine r_xld hxs q2 dL_law_886 ?_
  refine r_aload_n (x := sb) dL_law_887 rfl rfl ?_
  refine r_iload (x := (4 * j : Nat)) dL_law_888 rfl ?_
  refine ro_iconst (v := 3) dL_law_890 rfl ?_
  refine r_iadd dL_law_891 ?_
  refine r_xld hxs q3 dL_law_892 ?_
  refine ro_call0 hG (r2 := y) (σ2 := (mk1 M', C')) (v := some (wi y)) (X2 := (fX12_translate ((xs (ix ((4 * j : Nat) + (1 : Int)))).toInt) ((xs (ix ((4 * j : Nat) + (2 : Int)))).toInt) ((xs (ix ((4 * j : Nat) + (3 : Int)))).toInt) M).map (fun q => (q.1, (mk1 q.2, C')))) (by rw [hY]; rfl) rfl (m_ct (c_X12_translate (Γ := (b0, bG, cy, mCells cy mo (maA mo), g)) (mo := mo) (ma := maA mo) rfl ((xs (ix ((4 * j : Nat) + (1 : Int)))).toInt) ((xs (ix ((4 * j : Nat) + (2 : Int)))).toInt) ((xs (ix ((4 * j : Nat) + (3 : Int)))).toInt) M)) (inv_V (As := [wi ((xs (ix ((4 * j : Nat) + (1 : Int)))).toInt), wi ((xs (ix ((4 * j : Nat) + (2 : Int)))).toInt), wi ((xs (ix ((4 * j : Nat) + (3 : Int)))).toInt)]) (rest := []) kv_X12_translate (by decide) um_law_154 rfl (Nat.le_of_ble_eq_true rfl) dL_law_893 (fun H s hK hR => m_recL H s hK hR)) ?_
  refine r_istore (x := y) (lo2 := (6, wi y) :: (5, wi kk) :: loM sb b mo out (4 * j : Nat)) dL_law_896 (show 6 < 7 by decide) rfl ?_
  refine r_aload_n (x := mo) dL_law_898 rfl rfl ?_
  refine ro_call0 hG (r2 := M'.1 36) (σ2 := (mk1 M', C')) (v := some (wi (M'.1 36))) (X2 := (fX12_thrown M').map (fun q => (q.1, (mk1 q.2, C')))) rfl rfl (m_ct (c_X12_thrown (Γ := (b0, bG, cy, mCells cy mo (maA mo), g)) (mo := mo) (ma := maA mo) rfl M')) (inv_V (As := []) (rest := []) kv_X12_thrown (by decide) um_law_115 rfl (Nat.le_of_ble_eq_true rfl) dL_law_899 (fun H s hK hR => m_recL H s hK hR)) ?_
  refine r_iload (x := kk) dL_law_902 rfl ?_
  refine ro_t (c := w32 (M'.1 36) = w32 kk) (by rw [h36]) ?_
  refine r_icmp_eq (tgt := 909) dL_law_904 (by decide) ?_ ro_none
  refine r_iload (x := kk) dL_law_909 rfl ?_
  by_cases hz : kk = 0
  · refine ro_f (c := ¬ w32 kk = 0) (fun z => z (by rw [hz]; rfl)) ?_
    refine r_if_ne (tgt := 926) dL_law_911 (by decide) ro_none ?_
    refine r_aload_n (x := out) dL_law_914 rfl rfl ?_
    refine ro_iconst (v := 0) dL_law_915 rfl ?_
    refine r_lld ho'.1 (by rw [ho'.2]; decide) dL_law_916 ?_
    rw [show cE C' out (ix 0) = w32 y from hout hz]
    refine r_iload (x := y) dL_law_917 rfl ?_
    refine r_i2l dL_law_919 ?_
    refine r_lcmpE dL_law_920 ?_
    refine ro_t (c := w32 0 = 0) rfl ?_
    refine r_if_eq (tgt := 926) dL_law_921 (by decide) ?_ ro_none
    refine r_goto (tgt := 2122) dL_law_926 (by decide) ?_
    exact r_lo [2, 3, 4, 5, 6] (lo2 := loM sb b mo out (4 * j : Nat)) rfl K
  · refine ro_t (c := ¬ w32 kk = 0) (fun z => hz (w32_k0 hk0 z)) ?_
    refine r_if_ne (tgt := 926) dL_law_911 (by decide) ?_ ro_none
    refine r_goto (tgt := 2122) dL_law_926 (by decide) ?_
    exact r_lo [2, 3, 4, 5, 6] (lo2 := loM sb b mo out (4 * j : Nat)) rfl K
set_option maxHeartbeats 8000000 in
set_option maxRecDepth 100000 in
theorem case_instruct {l : Launch} {b0 : Nat} {bG : va_G} {cy : Nat → ClassId} {g : State → Heap → Prop} {sb b mo out Ls kc j : Nat} {xs : Nat → Int32} {T : List ExceptionTableEntry} {M : Md} {C : Cd} {sT : Nat → Nat} (hG : GK (b0, bG, cy, fS cy mo, g) l) (hXN : XN (b0, bG, cy, fS cy mo, g)) (hS : STs (b0, bG, cy, fS cy mo, g) sT) (hxs : XScr (b0, bG, cy, fS cy mo, g) sb Ls xs) (hj : 4 * j + 4 ≤ Ls) (hLs : Ls ≤ 2048) (hR : RR b kc M C) (hk : kc < 512) (ho : isO C out 108 ∧ cn C out = 1) (hbo : b + 854 ≤ out) :
    ∃ M' C', RR b (kc + 1) M' C' ∧ RmL b C C' ∧ (isO C' out 108 ∧ cn C' out = 1) ∧ ∀ X : Option (Int × St), RunO l (b0, bG, cy, fS cy mo, g) (kL T) 16 encI emL 2122 (loM sb b mo out (4 * j : Nat)) [] (mk1 M', C') X → RunO l (b0, bG, cy, fS cy mo, g) (kL T) 16 encI emL 929 (loM sb b mo out (4 * j : Nat)) [] (mk1 M, C) X := by
  have hb := hR.1.1.o
  obtain ⟨M', C', y, kk, hY, hR', hm, ho', eW, h36, hk0, hout⟩ := wrapE (tb := fun e => if e = 2 then some 1 else if e = 0 then some 2 else if e = 1 then some 3 else none) (S := [0, 1, 2]) hR (call_instruct hR (i32_of _) (i32_of _) (i32_of _)) (EO.use (ex_fX11_instruct b ((xs (ix ((4 * j : Nat) + (1 : Int)))).toInt) ((xs (ix ((4 * j : Nat) + (2 : Int)))).toInt) ((xs (ix ((4 * j : Nat) + (3 : Int)))).toInt) C)) (by decide) (GO.use (gr_fX11_instruct b ((xs (ix ((4 * j : Nat) + (1 : Int)))).toInt) ((xs (ix ((4 * j : Nat) + (2 : Int)))).toInt) ((xs (ix ((4 * j : Nat) + (3 : Int)))).toInt) C)) ho.1 ho.2 hbo
  have q1 : inR ((4 * j : Nat) + (1 : Int)) Ls := inR_s (by omega) (by omega)
  have q2 : inR ((4 * j : Nat) + (2 : Int)) Ls := inR_s (by omega) (by omega)
  have q3 : inR ((4 * j : Nat) + (3 : Int)) Ls := inR_s (by omega) (by omega)
  refine ⟨M', C', hR', hm, ho', fun X K => ?_⟩
  refine r_aload_n (x := b) dL_law_929 rfl rfl ?_
  refine r_aload_n (x := sb) dL_law_930 rfl rfl ?_
  refine r_iload (x := (4 * j : Nat)) dL_law_931 rfl ?_
  refine ro_iconst (v := 1) dL_law_933 rfl ?_
  refine r_iadd dL_law_934 ?_
  refine r_xld hxs q1 dL_law_935 ?_
  refine r_aload_n (x := sb) dL_law_936 rfl rfl ?_
  refine r_iload (x := (4 * j : Nat)) dL_law_937 rfl ?_
  refine ro_iconst (v := 2) dL_law_939 rfl ?_
  refine r_iadd dL_law_940 ?_
  refine r_xld hxs q2 dL_law_941 ?_
  refine r_aload_n (x := sb) dL_law_942 rfl rfl ?_
  refine r_iload (x := (4 * j : Nat)) dL_law_943 rfl ?_
  refine ro_iconst (v := 3) dL_law_945 rfl ?_
  refine r_iadd dL_law_946 ?_
  refine r_xld hxs q3 dL_law_947 ?_
  refine r_aload_n (x := out) dL_law_948 rfl rfl ?_
  refine ro_callW (r2 := kk) (σ2 := (mk1 M, C')) (As := [.ref b, wi ((xs (ix ((4 * j : Nat) + (1 : Int)))).toInt), wi ((xs (ix ((4 * j : Nat) + (2 : Int)))).toInt), wi ((xs (ix ((4 * j : Nat) + (3 : Int)))).toInt), .ref out]) (rest := []) (by rw [show fL_instruct b ((xs (ix ((4 * j : Nat) + (1 : Int)))).toInt) ((xs (ix ((4 * j : Nat) + (2 : Int)))).toInt) ((xs (ix ((4 * j : Nat) + (3 : Int)))).toInt) out C = some (kk, C') from (if_pos hb).trans eW]; rfl) kv_L_instruct (w_ct (c_L_instruct hG hXN hS b ((xs (ix ((4 * j : Nat) + (1 : Int)))).toInt) ((xs (ix ((4 * j : Nat) + (2 : Int)))).toInt) ((xs (ix ((4 * j : Nat) + (3 : Int)))).toInt) out C)) (by decide) um_law_155 rfl (Nat.le_of_ble_eq_true rfl) dL_law_949 rfl ?_
  refine r_istore (x := kk) (lo2 := (5, wi kk) :: loM sb b mo out (4 * j : Nat)) dL_law_952 (show 5 < 7 by decide) rfl ?_
  refine r_aload_n (x := mo) dL_law_954 rfl rfl ?_
  refine r_aload_n (x := sb) dL_law_955 rfl rfl ?_
  refine r_iload (x := (4 * j : Nat)) dL_law_956 rfl ?_
  refine ro_iconst (v := 1) dL_law_958 rfl ?_
  refine r_iadd dL_law_959 ?_
  refine r_xld hxs q1 dL_law_960 ?_
  refine r_aload_n (x := sb) dL_law_961 rfl rfl ?_
  refine r_iload (x := (4 * j : Nat)) dL_law_962 rfl ?_
  refine ro_iconst (v := 2) dL_law_964 rfl ?_
  refine r_iadd dL_law_965 ?_
  refine r_xld hxs q2 dL_law_966 ?_
  refine r_aload_n (x := sb) dL_law_967 rfl rfl ?_
  refine r_iload (x := (4 * j : Nat)) dL_law_968 rfl ?_
  refine ro_iconst (v := 3) dL_law_970 rfl ?_
  refine r_iadd dL_law_971 ?_
  refine r_xld hxs q3 dL_law_972 ?_
  refine ro_call0 hG (r2 := y) (σ2 := (mk1 M', C')) (v := some (wi y)) (X2 := (fX12_instruct ((xs (ix ((4 * j : Nat) + (1 : Int)))).toInt) ((xs (ix ((4 * j : Nat) + (2 : Int)))).toInt) ((xs (ix ((4 * j : Nat) + (3 : Int)))).toInt) M).map (fun q => (q.1, (mk1 q.2, C')))) (by rw [hY]; rfl) rfl (m_ct (c_X12_instruct (Γ := (b0, bG, cy, mCells cy mo (maA mo), g)) (mo := mo) (ma := maA mo) rfl ((xs (ix ((4 * j : Nat) + (1 : Int)))).toInt) ((xs (ix ((4 * j : Nat) + (2 : Int)))).toInt) ((xs (ix ((4 * j : Nat) + (3 : Int)))).toInt) M)) (inv_V (As := [wi ((xs (ix ((4 * j : Nat) + (1 : Int)))).toInt), wi ((xs (ix ((4 * j : Nat) + (2 : Int)))).toInt), wi ((xs (ix ((4 * j : Nat) + (3 : Int)))).toInt)]) (rest := []) kv_X12_instruct (by decide) um_law_157 rfl (Nat.le_of_ble_eq_true rfl) dL_law_973 (fun H s hK hR => m_recL H s hK hR)) ?_
  refine r_istore (x := y) (lo2 := (6, wi y) :: (5, wi kk) :: loM sb b mo out (4 * j : Nat)) dL_law_976 (show 6 < 7 by decide) rfl ?_
  refine r_aload_n (x := mo) dL_law_978 rfl rfl ?_
  refine ro_call0 hG (r2 := M'.1 36) (σ2 := (mk1 M', C')) (v := some (wi (M'.1 36))) (X2 := (fX12_thrown M').map (fun q => (q.1, (mk1 q.2, C')))) rfl rfl (m_ct (c_X12_thrown (Γ := (b0, bG, cy, mCells cy mo (maA mo), g)) (mo := mo) (ma := maA mo) rfl M')) (inv_V (As := []) (rest := []) kv_X12_thrown (by decide) um_law_115 rfl (Nat.le_of_ble_eq_true rfl) dL_law_979 (fun H s hK hR => m_recL H s hK hR)) ?_
  refine r_iload (x := kk) dL_law_982 rfl ?_
  refine ro_t (c := w32 (M'.1 36) = w32 kk) (by rw [h36]) ?_
  refine r_icmp_eq (tgt := 989) dL_law_984 (by decide) ?_ ro_none
  refine r_iload (x := kk) dL_law_989 rfl ?_
  by_cases hz : kk = 0
  · refine ro_f (c := ¬ w32 kk = 0) (fun z => z (by rw [hz]; rfl)) ?_
    refine r_if_ne (tgt := 1006) dL_law_991 (by decide) ro_none ?_
    refine r_aload_n (x := out) dL_law_994 rfl rfl ?_
    refine ro_iconst (v := 0) dL_law_995 rfl ?_
    refine r_lld ho'.1 (by rw [ho'.2]; decide) dL_law_996 ?_
    rw [show cE C' out (ix 0) = w32 y from hout hz]
    refine r_iload (x := y) dL_law_997 rfl ?_
    refine r_i2l dL_law_999 ?_
    refine r_lcmpE dL_law_1000 ?_
    refine ro_t (c := w32 0 = 0) rfl ?_
    refine r_if_eq (tgt := 1006) dL_law_1001 (by decide) ?_ ro_none
    refine r_goto (tgt := 2122) dL_law_1006 (by decide) ?_
    exact r_lo [2, 3, 4, 5, 6] (lo2 := loM sb b mo out (4 * j : Nat)) rfl K
  · refine ro_t (c := ¬ w32 kk = 0) (fun z => hz (w32_k0 hk0 z)) ?_
    refine r_if_ne (tgt := 1006) dL_law_991 (by decide) ?_ ro_none
    refine r_goto (tgt := 2122) dL_law_1006 (by decide) ?_
    exact r_lo [2, 3, 4, 5, 6] (lo2 := loM sb b mo out (4 * j : Nat)) rfl K
set_option maxHeartbeats 8000000 in
set_option maxRecDepth 100000 in
theorem case_empty {l : Launch} {b0 : Nat} {bG : va_G} {cy : Nat → ClassId} {g : State → Heap → Prop} {sb b mo out Ls kc j : Nat} {xs : Nat → Int32} {T : List ExceptionTableEntry} {M : Md} {C : Cd} {sT : Nat → Nat} (hG : GK (b0, bG, cy, fS cy mo, g) l) (hXN : XN (b0, bG, cy, fS cy mo, g)) (hS : STs (b0, bG, cy, fS cy mo, g) sT) (hxs : XScr (b0, bG, cy, fS cy mo, g) sb Ls xs) (hj : 4 * j + 4 ≤ Ls) (hLs : Ls ≤ 2048) (hR : RR b kc M C) (hk : kc < 512) (ho : isO C out 108 ∧ cn C out = 1) (hbo : b + 854 ≤ out) :
    ∃ M' C', RR b (kc + 1) M' C' ∧ RmL b C C' ∧ (isO C' out 108 ∧ cn C' out = 1) ∧ ∀ X : Option (Int × St), RunO l (b0, bG, cy, fS cy mo, g) (kL T) 16 encI emL 2122 (loM sb b mo out (4 * j : Nat)) [] (mk1 M', C') X → RunO l (b0, bG, cy, fS cy mo, g) (kL T) 16 encI emL 1009 (loM sb b mo out (4 * j : Nat)) [] (mk1 M, C) X := by
  have hb := hR.1.1.o
  obtain ⟨M', C', y, kk, hY, hR', hm, ho', eW, h36, hk0, hout⟩ := wrapE (tb := fun e => if e = 2 then some 1 else none) (S := [2]) hR (call_empty hR (i32_of _)) (EO.use (ex_fX11_empty b ((xs (ix ((4 * j : Nat) + (1 : Int)))).toInt) C)) (by decide) (GO.use (gr_fX11_empty b ((xs (ix ((4 * j : Nat) + (1 : Int)))).toInt) C)) ho.1 ho.2 hbo
  have q1 : inR ((4 * j : Nat) + (1 : Int)) Ls := inR_s (by omega) (by omega)
  have q2 : inR ((4 * j : Nat) + (2 : Int)) Ls := inR_s (by omega) (by omega)
  have q3 : inR ((4 * j : Nat) + (3 : Int)) Ls := inR_s (by omega) (by omega)
  refine ⟨M', C', hR', hm, ho', fun X K => ?_⟩
  refine r_aload_n (x := b) dL_law_1009 rfl rfl ?_
  refine r_aload_n (x := sb) dL_law_1010 rfl rfl ?_
  refine r_iload (x := (4 * j : Nat)) dL_law_1011 rfl ?_
  refine ro_iconst (v := 1) dL_law_1013 rfl ?_
  refine r_iadd dL_law_1014 ?_
  refine r_xld hxs q1 dL_law_1015 ?_
  refine r_aload_n (x := out) dL_law_1016 rfl rfl ?_
  refine ro_callW (r2 := kk) (σ2 := (mk1 M, C')) (As := [.ref b, wi ((xs (ix ((4 * j : Nat) + (1 : Int)))).toInt), .ref out]) (rest := []) (by rw [show fL_empty b ((xs (ix ((4 * j : Nat) + (1 : Int)))).toInt) out C = some (kk, C') from (if_pos hb).trans eW]; rfl) kv_L_empty (w_ct (c_L_empty hG hXN b ((xs (ix ((4 * j : Nat) + (1 : Int)))).toInt) out C)) (by decide) um_law_158 rfl (Nat.le_of_ble_eq_true rfl) dL_law_1017 rfl ?_
  refine r_istore (x := kk) (lo2 := (5, wi kk) :: loM sb b mo out (4 * j : Nat)) dL_law_1020 (show 5 < 7 by decide) rfl ?_
  refine r_aload_n (x := mo) dL_law_1022 rfl rfl ?_
  refine r_aload_n (x := sb) dL_law_1023 rfl rfl ?_
  refine r_iload (x := (4 * j : Nat)) dL_law_1024 rfl ?_
  refine ro_iconst (v := 1) dL_law_1026 rfl ?_
  refine r_iadd dL_law_1027 ?_
  refine r_xld hxs q1 dL_law_1028 ?_
  refine ro_call0 hG (r2 := y) (σ2 := (mk1 M', C')) (v := some (wi y)) (X2 := (fX12_empty ((xs (ix ((4 * j : Nat) + (1 : Int)))).toInt) M).map (fun q => (q.1, (mk1 q.2, C')))) (by rw [hY]; rfl) rfl (m_ct (c_X12_empty (Γ := (b0, bG, cy, mCells cy mo (maA mo), g)) (mo := mo) (ma := maA mo) rfl ((xs (ix ((4 * j : Nat) + (1 : Int)))).toInt) M)) (inv_V (As := [wi ((xs (ix ((4 * j : Nat) + (1 : Int)))).toInt)]) (rest := []) kv_X12_empty (by decide) um_law_160 rfl (Nat.le_of_ble_eq_true rfl) dL_law_1029 (fun H s hK hR => m_recL H s hK hR)) ?_
  refine r_istore (x := y) (lo2 := (6, wi y) :: (5, wi kk) :: loM sb b mo out (4 * j : Nat)) dL_law_1032 (show 6 < 7 by decide) rfl ?_
  refine r_aload_n (x := mo) dL_law_1034 rfl rfl ?_
  refine ro_call0 hG (r2 := M'.1 36) (σ2 := (mk1 M', C')) (v := some (wi (M'.1 36))) (X2 := (fX12_thrown M').map (fun q => (q.1, (mk1 q.2, C')))) rfl rfl (m_ct (c_X12_thrown (Γ := (b0, bG, cy, mCells cy mo (maA mo), g)) (mo := mo) (ma := maA mo) rfl M')) (inv_V (As := []) (rest := []) kv_X12_thrown (by decide) um_law_115 rfl (Nat.le_of_ble_eq_true rfl) dL_law_1035 (fun H s hK hR => m_recL H s hK hR)) ?_
  refine r_iload (x := kk) dL_law_1038 rfl ?_
  refine ro_t (c := w32 (M'.1 36) = w32 kk) (by rw [h36]) ?_
  refine r_icmp_eq (tgt := 1045) dL_law_1040 (by decide) ?_ ro_none
  refine r_iload (x := kk) dL_law_1045 rfl ?_
  by_cases hz : kk = 0
  · refine ro_f (c := ¬ w32 kk = 0) (fun z => z (by rw [hz]; rfl)) ?_
    refine r_if_ne (tgt := 1062) dL_law_1047 (by decide) ro_none ?_
    refine r_aload_n (x := out) dL_law_1050 rfl rfl ?_
    refine ro_iconst (v := 0) dL_law_1051 rfl ?_
    refine r_lld ho'.1 (by rw [ho'.2]; decide) dL_law_1052 ?_
    rw [show cE C' out (ix 0) = w32 y from hout hz]
    refine r_iload (x := y) dL_law_1053 rfl ?_
    refine r_i2l dL_law_1055 ?_
    refine r_lcmpE dL_law_1056 ?_
    refine ro_t (c := w32 0 = 0) rfl ?_
    refine r_if_eq (tgt := 1062) dL_law_1057 (by decide) ?_ ro_none
    refine r_goto (tgt := 2122) dL_law_1062 (by decide) ?_
    exact r_lo [2, 3, 4, 5, 6] (lo2 := loM sb b mo out (4 * j : Nat)) rfl K
  · refine ro_t (c := ¬ w32 kk = 0) (fun z => hz (w32_k0 hk0 z)) ?_
    refine r_if_ne (tgt := 1062) dL_law_1047 (by decide) ?_ ro_none
    refine r_goto (tgt := 2122) dL_law_1062 (by decide) ?_
    exact r_lo [2, 3, 4, 5, 6] (lo2 := loM sb b mo out (4 * j : Nat)) rfl K
set_option maxHeartbeats 8000000 in
set_option maxRecDepth 100000 in
theorem case_rank {l : Launch} {b0 : Nat} {bG : va_G} {cy : Nat → ClassId} {g : State → Heap → Prop} {sb b mo out Ls kc j : Nat} {xs : Nat → Int32} {T : List ExceptionTableEntry} {M : Md} {C : Cd} {sT : Nat → Nat} (hG : GK (b0, bG, cy, fS cy mo, g) l) (hXN : XN (b0, bG, cy, fS cy mo, g)) (hS : STs (b0, bG, cy, fS cy mo, g) sT) (hxs : XScr (b0, bG, cy, fS cy mo, g) sb Ls xs) (hj : 4 * j + 4 ≤ Ls) (hLs : Ls ≤ 2048) (hR : RR b kc M C) (hk : kc < 512) (ho : isO C out 108 ∧ cn C out = 1) (hbo : b + 854 ≤ out) :
    ∃ M' C', RR b (kc + 1) M' C' ∧ RmL b C C' ∧ (isO C' out 108 ∧ cn C' out = 1) ∧ ∀ X : Option (Int × St), RunO l (b0, bG, cy, fS cy mo, g) (kL T) 16 encI emL 2122 (loM sb b mo out (4 * j : Nat)) [] (mk1 M', C') X → RunO l (b0, bG, cy, fS cy mo, g) (kL T) 16 encI emL 1065 (loM sb b mo out (4 * j : Nat)) [] (mk1 M, C) X := by
  have hb := hR.1.1.o
  obtain ⟨M', C', y, kk, hY, hR', hm, ho', eW, h36, hk0, hout⟩ := wrapE (tb := fun e => if e = 2 then some 1 else if e = 0 then some 2 else none) (S := [0, 2]) hR (call_rank hR (i32_of _) (i32_of _)) (EO.use (ex_fX11_rank b ((xs (ix ((4 * j : Nat) + (1 : Int)))).toInt) ((xs (ix ((4 * j : Nat) + (2 : Int)))).toInt) C)) (by decide) (GO.use (gr_fX11_rank b ((xs (ix ((4 * j : Nat) + (1 : Int)))).toInt) ((xs (ix ((4 * j : Nat) + (2 : Int)))).toInt) C)) ho.1 ho.2 hbo
  have q1 : inR ((4 * j : Nat) + (1 : Int)) Ls := inR_s (by omega) (by omega)
  have q2 : inR ((4 * j : Nat) + (2 : Int)) Ls := inR_s (by omega) (by omega)
  have q3 : inR ((4 * j : Nat) + (3 : Int)) Ls := inR_s (by omega) (by omega)
  refine ⟨M', C', hR', hm, ho', fun X K => ?_⟩
  refine r_aload_n (x := b) dL_law_1065 rfl rfl ?_
  refine r_aload_n (x := sb) dL_law_1066 rfl rfl ?_
  refine r_iload (x := (4 * j : Nat)) dL_law_1067 rfl ?_
  refine ro_iconst (v := 1) dL_law_1069 rfl ?_
  refine r_iadd dL_law_1070 ?_
  refine r_xld hxs q1 dL_law_1071 ?_
  refine r_aload_n (x := sb) dL_law_1072 rfl rfl ?_
  refine r_iload (x := (4 * j : Nat)) dL_law_1073 rfl ?_
  refine ro_iconst (v := 2) dL_law_1075 rfl ?_
  refine r_iadd dL_law_1076 ?_
  refine r_xld hxs q2 dL_law_1077 ?_
  refine r_aload_n (x := out) dL_law_1078 rfl rfl ?_
  refine ro_callW (r2 := kk) (σ2 := (mk1 M, C')) (As := [.ref b, wi ((xs (ix ((4 * j : Nat) + (1 : Int)))).toInt), wi ((xs (ix ((4 * j : Nat) + (2 : Int)))).toInt), .ref out]) (rest := []) (by rw [show fL_rank b ((xs (ix ((4 * j : Nat) + (1 : Int)))).toInt) ((xs (ix ((4 * j : Nat) + (2 : Int)))).toInt) out C = some (kk, C') from (if_pos hb).trans eW]; rfl) kv_L_rank (w_ct (c_L_rank hG hXN b ((xs (ix ((4 * j : Nat) + (1 : Int)))).toInt) ((xs (ix ((4 * j : Nat) + (2 : Int)))).toInt) out C)) (by decide) um_law_161 rfl (Nat.le_of_ble_eq_true rfl) dL_law_1079 rfl ?_
  refine r_istore (x := kk) (lo2 := (5, wi kk) :: loM sb b mo out (4 * j : Nat)) dL_law_1082 (show 5 < 7 by decide) rfl ?_
  refine r_aload_n (x := mo) dL_law_1084 rfl rfl ?_
  refine r_aload_n (x := sb) dL_law_1085 rfl rfl ?_
  refine r_iload (x := (4 * j : Nat)) dL_law_1086 rfl ?_
  refine ro_iconst (v := 1) dL_law_1088 rfl ?_
  refine r_iadd dL_law_1089 ?_
  refine r_xld hxs q1 dL_law_1090 ?_
  refine r_aload_n (x := sb) dL_law_1091 rfl rfl ?_
  refine r_iload (x := (4 * j : Nat)) dL_law_1092 rfl ?_
  refine ro_iconst (v := 2) dL_law_1094 rfl ?_
  refine r_iadd dL_law_1095 ?_
  refine r_xld hxs q2 dL_law_1096 ?_
  refine ro_call0 hG (r2 := y) (σ2 := (mk1 M', C')) (v := some (wi y)) (X2 := (fX12_rank ((xs (ix ((4 * j : Nat) + (1 : Int)))).toInt) ((xs (ix ((4 * j : Nat) + (2 : Int)))).toInt) M).map (fun q => (q.1, (mk1 q.2, C')))) (by rw [hY]; rfl) rfl (m_ct (c_X12_rank (Γ := (b0, bG, cy, mCells cy mo (maA mo), g)) (mo := mo) (ma := maA mo) rfl ((xs (ix ((4 * j : Nat) + (1 : Int)))).toInt) ((xs (ix ((4 * j : Nat) + (2 : Int)))).toInt) M)) (inv_V (As := [wi ((xs (ix ((4 * j : Nat) + (1 : Int)))).toInt), wi ((xs (ix ((4 * j : Nat) + (2 : Int)))).toInt)]) (rest := []) kv_X12_rank (by decide) um_law_163 rfl (Nat.le_of_ble_eq_true rfl) dL_law_1097 (fun H s hK hR => m_recL H s hK hR)) ?_
  refine r_istore (x := y) (lo2 := (6, wi y) :: (5, wi kk) :: loM sb b mo out (4 * j : Nat)) dL_law_1100 (show 6 < 7 by decide) rfl ?_
  refine r_aload_n (x := mo) dL_law_1102 rfl rfl ?_
  refine ro_call0 hG (r2 := M'.1 36) (σ2 := (mk1 M', C')) (v := some (wi (M'.1 36))) (X2 := (fX12_thrown M').map (fun q => (q.1, (mk1 q.2, C')))) rfl rfl (m_ct (c_X12_thrown (Γ := (b0, bG, cy, mCells cy mo (maA mo), g)) (mo := mo) (ma := maA mo) rfl M')) (inv_V (As := []) (rest := []) kv_X12_thrown (by decide) um_law_115 rfl (Nat.le_of_ble_eq_true rfl) dL_law_1103 (fun H s hK hR => m_recL H s hK hR)) ?_
  refine r_iload (x := kk) dL_law_1106 rfl ?_
  refine ro_t (c := w32 (M'.1 36) = w32 kk) (by rw [h36]) ?_
  refine r_icmp_eq (tgt := 1113) dL_law_1108 (by decide) ?_ ro_none
  refine r_iload (x := kk) dL_law_1113 rfl ?_
  by_cases hz : kk = 0
  · refine ro_f (c := ¬ w32 kk = 0) (fun z => z (by rw [hz]; rfl)) ?_
    refine r_if_ne (tgt := 1130) dL_law_1115 (by decide) ro_none ?_
    refine r_aload_n (x := out) dL_law_1118 rfl rfl ?_
    refine ro_iconst (v := 0) dL_law_1119 rfl ?_
    refine r_lld ho'.1 (by rw [ho'.2]; decide) dL_law_1120 ?_
    rw [show cE C' out (ix 0) = w32 y from hout hz]
    refine r_iload (x := y) dL_law_1121 rfl ?_
    refine r_i2l dL_law_1123 ?_
    refine r_lcmpE dL_law_1124 ?_
    refine ro_t (c := w32 0 = 0) rfl ?_
    refine r_if_eq (tgt := 1130) dL_law_1125 (by decide) ?_ ro_none
    refine r_goto (tgt := 2122) dL_law_1130 (by decide) ?_
    exact r_lo [2, 3, 4, 5, 6] (lo2 := loM sb b mo out (4 * j : Nat)) rfl K
  · refine ro_t (c := ¬ w32 kk = 0) (fun z => hz (w32_k0 hk0 z)) ?_
    refine r_if_ne (tgt := 1130) dL_law_1115 (by decide) ?_ ro_none
    refine r_goto (tgt := 2122) dL_law_1130 (by decide) ?_
    exact r_lo [2, 3, 4, 5, 6] (lo2 := loM sb b mo out (4 * j : Nat)) rfl K
set_option maxHeartbeats 8000000 in
set_option maxRecDepth 100000 in
theorem case_work {l : Launch} {b0 : Nat} {bG : va_G} {cy : Nat → ClassId} {g : State → Heap → Prop} {sb b mo out Ls kc j : Nat} {xs : Nat → Int32} {T : List ExceptionTableEntry} {M : Md} {C : Cd} {sT : Nat → Nat} (hG : GK (b0, bG, cy, fS cy mo, g) l) (hXN : XN (b0, bG, cy, fS cy mo, g)) (hS : STs (b0, bG, cy, fS cy mo, g) sT) (hxs : XScr (b0, bG, cy, fS cy mo, g) sb Ls xs) (hj : 4 * j + 4 ≤ Ls) (hLs : Ls ≤ 2048) (hR : RR b kc M C) (hk : kc < 512) (ho : isO C out 108 ∧ cn C out = 1) (hbo : b + 854 ≤ out) :
    ∃ M' C', RR b (kc + 1) M' C' ∧ RmL b C C' ∧ (isO C' out 108 ∧ cn C' out = 1) ∧ ∀ X : Option (Int × St), RunO l (b0, bG, cy, fS cy mo, g) (kL T) 16 encI emL 2122 (loM sb b mo out (4 * j : Nat)) [] (mk1 M', C') X → RunO l (b0, bG, cy, fS cy mo, g) (kL T) 16 encI emL 1133 (loM sb b mo out (4 * j : Nat)) [] (mk1 M, C) X := by
  have hb := hR.1.1.o
  obtain ⟨M', C', y, kk, hY, hR', hm, ho', eW, h36, hk0, hout⟩ := wrapE (tb := fun e => if e = 0 then some 1 else none) (S := [0]) hR (call_work hR (by omega) (i32_of _)) (EO.use (ex_fX11_work b ((xs (ix ((4 * j : Nat) + (1 : Int)))).toInt) C)) (by decide) (GO.use (gr_fX11_work b ((xs (ix ((4 * j : Nat) + (1 : Int)))).toInt) C)) ho.1 ho.2 hbo
  have q1 : inR ((4 * j : Nat) + (1 : Int)) Ls := inR_s (by omega) (by omega)
  have q2 : inR ((4 * j : Nat) + (2 : Int)) Ls := inR_s (by omega) (by omega)
  have q3 : inR ((4 * j : Nat) + (3 : Int)) Ls := inR_s (by omega) (by omega)
  refine ⟨M', C', hR', hm, ho', fun X K => ?_⟩
  refine r_aload_n (x := b) dL_law_1133 rfl rfl ?_
  refine r_aload_n (x := sb) dL_law_1134 rfl rfl ?_
  refine r_iload (x := (4 * j : Nat)) dL_law_1135 rfl ?_
  refine ro_iconst (v := 1) dL_law_1137 rfl ?_
  refine r_iadd dL_law_1138 ?_
  refine r_xld hxs q1 dL_law_1139 ?_
  refine r_aload_n (x := out) dL_law_1140 rfl rfl ?_
  refine ro_callW (r2 := kk) (σ2 := (mk1 M, C')) (As := [.ref b, wi ((xs (ix ((4 * j : Nat) + (1 : Int)))).toInt), .ref out]) (rest := []) (by rw [show fL_work b ((xs (ix ((4 * j : Nat) + (1 : Int)))).toInt) out C = some (kk, C') from (if_pos hb).trans eW]; rfl) kv_L_work (w_ct (c_L_work hG hXN b ((xs (ix ((4 * j : Nat) + (1 : Int)))).toInt) out C)) (by decide) um_law_164 rfl (Nat.le_of_ble_eq_true rfl) dL_law_1141 rfl ?_
  refine r_istore (x := kk) (lo2 := (5, wi kk) :: loM sb b mo out (4 * j : Nat)) dL_law_1144 (show 5 < 7 by decide) rfl ?_
  refine r_aload_n (x := mo) dL_law_1146 rfl rfl ?_
  refine r_aload_n (x := sb) dL_law_1147 rfl rfl ?_
  refine r_iload (x := (4 * j : Nat)) dL_law_1148 rfl ?_
  refine ro_iconst (v := 1) dL_law_1150 rfl ?_
  refine r_iadd dL_law_1151 ?_
  refine r_xld hxs q1 dL_law_1152 ?_
  refine ro_call0 hG (r2 := y) (σ2 := (mk1 M', C')) (v := some (wi y)) (X2 := (fX12_work ((xs (ix ((4 * j : Nat) + (1 : Int)))).toInt) M).map (fun q => (q.1, (mk1 q.2, C')))) (by rw [hY]; rfl) rfl (m_ct (c_X12_work (Γ := (b0, bG, cy, mCells cy mo (maA mo), g)) (mo := mo) (ma := maA mo) rfl ((xs (ix ((4 * j : Nat) + (1 : Int)))).toInt) M)) (inv_V (As := [wi ((xs (ix ((4 * j : Nat) + (1 : Int)))).toInt)]) (rest := []) kv_X12_work (by decide) um_law_166 rfl (Nat.le_of_ble_eq_true rfl) dL_law_1153 (fun H s hK hR => m_recL H s hK hR)) ?_
  refine r_istore (x := y) (lo2 := (6, wi y) :: (5, wi kk) :: loM sb b mo out (4 * j : Nat)) dL_law_1156 (show 6 < 7 by decide) rfl ?_
  refine r_aload_n (x := mo) dL_law_1158 rfl rfl ?_
  refine ro_call0 hG (r2 := M'.1 36) (σ2 := (mk1 M', C')) (v := some (wi (M'.1 36))) (X2 := (fX12_thrown M').map (fun q => (q.1, (mk1 q.2, C')))) rfl rfl (m_ct (c_X12_thrown (Γ := (b0, bG, cy, mCells cy mo (maA mo), g)) (mo := mo) (ma := maA mo) rfl M')) (inv_V (As := []) (rest := []) kv_X12_thrown (by decide) um_law_115 rfl (Nat.le_of_ble_eq_true rfl) dL_law_1159 (fun H s hK hR => m_recL H s hK hR)) ?_
  refine r_iload (x := kk) dL_law_1162 rfl ?_
  refine ro_t (c := w32 (M'.1 36) = w32 kk) (by rw [h36]) ?_
  refine r_icmp_eq (tgt := 1169) dL_law_1164 (by decide) ?_ ro_none
  refine r_iload (x := kk) dL_law_1169 rfl ?_
  by_cases hz : kk = 0
  · refine ro_f (c := ¬ w32 kk = 0) (fun z => z (by rw [hz]; rfl)) ?_
    refine r_if_ne (tgt := 1186) dL_law_1171 (by decide) ro_none ?_
    refine r_aload_n (x := out) dL_law_1174 rfl rfl ?_
    refine ro_iconst (v := 0) dL_law_1175 rfl ?_
    refine r_lld ho'.1 (by rw [ho'.2]; decide) dL_law_1176 ?_
    rw [show cE C' out (ix 0) = w32 y from hout hz]
    refine r_iload (x := y) dL_law_1177 rfl ?_
    refine r_i2l dL_law_1179 ?_
    refine r_lcmpE dL_law_1180 ?_
    refine ro_t (c := w32 0 = 0) rfl ?_
    refine r_if_eq (tgt := 1186) dL_law_1181 (by decide) ?_ ro_none
    refine r_goto (tgt := 2122) dL_law_1186 (by decide) ?_
    exact r_lo [2, 3, 4, 5, 6] (lo2 := loM sb b mo out (4 * j : Nat)) rfl K
  · refine ro_t (c := ¬ w32 kk = 0) (fun z => hz (w32_k0 hk0 z)) ?_
    refine r_if_ne (tgt := 1186) dL_law_1171 (by decide) ?_ ro_none
    refine r_goto (tgt := 2122) dL_law_1186 (by decide) ?_
    exact r_lo [2, 3, 4, 5, 6] (lo2 := loM sb b mo out (4 * j : Nat)) rfl K
set_option maxHeartbeats 8000000 in
set_option maxRecDepth 100000 in
theorem case_read {l : Launch} {b0 : Nat} {bG : va_G} {cy : Nat → ClassId} {g : State → Heap → Prop} {sb b mo out Ls kc j : Nat} {xs : Nat → Int32} {T : List ExceptionTableEntry} {M : Md} {C : Cd} {sT : Nat → Nat} (hG : GK (b0, bG, cy, fS cy mo, g) l) (hXN : XN (b0, bG, cy, fS cy mo, g)) (hS : STs (b0, bG, cy, fS cy mo, g) sT) (hxs : XScr (b0, bG, cy, fS cy mo, g) sb Ls xs) (hj : 4 * j + 4 ≤ Ls) (hLs : Ls ≤ 2048) (hR : RR b kc M C) (hk : kc < 512) (ho : isO C out 108 ∧ cn C out = 1) (hbo : b + 854 ≤ out) :
    ∃ M' C', RR b (kc + 1) M' C' ∧ RmL b C C' ∧ (isO C' out 108 ∧ cn C' out = 1) ∧ ∀ X : Option (Int × St), RunO l (b0, bG, cy, fS cy mo, g) (kL T) 16 encI emL 2122 (loM sb b mo out (4 * j : Nat)) [] (mk1 M', C') X → RunO l (b0, bG, cy, fS cy mo, g) (kL T) 16 encI emL 1189 (loM sb b mo out (4 * j : Nat)) [] (mk1 M, C) X := by
  by_cases hw : w32 ((xs (ix ((4 * j : Nat) + (2 : Int)))).toInt) = 0
  · have hb := hR.1.1.o
    obtain ⟨M', C', y, kk, hY, hR', hm, ho', eW, h36, hk0, hout⟩ := wrapE (tb := fun e => if e = 2 then some 1 else none) (S := [2]) hR (call_read hR (by omega) (i32_of _)) (EO.use (ex_fX11_read b ((xs (ix ((4 * j : Nat) + (1 : Int)))).toInt) 0 C)) (by decide) (GO.use (gr_fX11_read b ((xs (ix ((4 * j : Nat) + (1 : Int)))).toInt) 0 C)) ho.1 ho.2 hbo
    have q1 : inR ((4 * j : Nat) + (1 : Int)) Ls := inR_s (by omega) (by omega)
    have q2 : inR ((4 * j : Nat) + (2 : Int)) Ls := inR_s (by omega) (by omega)
    have q3 : inR ((4 * j : Nat) + (3 : Int)) Ls := inR_s (by omega) (by omega)
    refine ⟨M', C', hR', hm, ho', fun X K => ?_⟩
    refine r_aload_n (x := b) dL_law_1189 rfl rfl ?_
    refine r_aload_n (x := sb) dL_law_1190 rfl rfl ?_
    refine r_iload (x := (4 * j : Nat)) dL_law_1191 rfl ?_
    refine ro_iconst (v := 1) dL_law_1193 rfl ?_
    refine r_iadd dL_law_1194 ?_
    refine r_xld hxs q1 dL_law_1195 ?_
    refine r_aload_n (x := sb) dL_law_1196 rfl rfl ?_
    refine r_iload (x := (4 * j : Nat)) dL_law_1197 rfl ?_
    refine ro_iconst (v := 2) dL_law_1199 rfl ?_
    refine r_iadd dL_law_1200 ?_
    refine r_xld hxs q2 dL_law_1201 ?_
    refine ro_t (c := w32 ((xs (ix ((4 * j : Nat) + (2 : Int)))).toInt) = 0) hw ?_
    refine r_if_eq (tgt := 1209) dL_law_1202 (by decide) ?_ ro_none
    refine ro_iconst (v := 0) dL_law_1209 rfl ?_
    refine r_aload_n (x := out) dL_law_1210 rfl rfl ?_
    refine ro_callW (r2 := kk) (σ2 := (mk1 M, C')) (As := [.ref b, wi ((xs (ix ((4 * j : Nat) + (1 : Int)))).toInt), wi 0, .ref out]) (rest := []) (by rw [show fL_read b ((xs (ix ((4 * j : Nat) + (1 : Int)))).toInt) 0 out C = some (kk, C') from (if_pos hb).trans eW]; rfl) kv_L_read (w_ct (c_L_read hG hXN b ((xs (ix ((4 * j : Nat) + (1 : Int)))).toInt) 0 out C)) (by decide) um_law_167 rfl (Nat.le_of_ble_eq_true rfl) dL_law_1211 rfl ?_
    refine r_istore (x := kk) (lo2 := (5, wi kk) :: loM sb b mo out (4 * j : Nat)) dL_law_1214 (show 5 < 7 by decide) rfl ?_
    refine r_aload_n (x := mo) dL_law_1216 rfl rfl ?_
    refine r_aload_n (x := sb) dL_law_1217 rfl rfl ?_
    refine r_iload (x := (4 * j : Nat)) dL_law_1218 rfl ?_
    refine ro_iconst (v := 1) dL_law_1220 rfl ?_
    refine r_iadd dL_law_1221 ?_
    refine r_xld hxs q1 dL_law_1222 ?_
    refine r_aload_n (x := sb) dL_law_1223 rfl rfl ?_
    refine r_iload (x := (4 * j : Nat)) dL_law_1224 rfl ?_
    refine ro_iconst (v := 2) dL_law_1226 rfl ?_
    refine r_iadd dL_law_1227 ?_
    refine r_xld hxs q2 dL_law_1228 ?_
    refine ro_t (c := w32 ((xs (ix ((4 * j : Nat) + (2 : Int)))).toInt) = 0) hw ?_
    refine r_if_eq (tgt := 1236) dL_law_1229 (by decide) ?_ ro_none
    refine ro_iconst (v := 0) dL_law_1236 rfl ?_
    refine ro_call0 hG (r2 := y) (σ2 := (mk1 M', C')) (v := some (wi y)) (X2 := (fX12_read ((xs (ix ((4 * j : Nat) + (1 : Int)))).toInt) 0 M).map (fun q => (q.1, (mk1 q.2, C')))) (by rw [hY]; rfl) rfl (m_ct (c_X12_read (Γ := (b0, bG, cy, mCells cy mo (maA mo), g)) (mo := mo) (ma := maA mo) rfl ((xs (ix ((4 * j : Nat) + (1 : Int)))).toInt) 0 M)) (inv_V (As := [wi ((xs (ix ((4 * j : Nat) + (1 : Int)))).toInt), wi 0]) (rest := []) kv_X12_read (by decide) um_law_170 rfl (Nat.le_of_ble_eq_true rfl) dL_law_1237 (fun H s hK hR => m_recL H s hK hR)) ?_
    refine r_istore (x := y) (lo2 := (6, wi y) :: (5, wi kk) :: loM sb b mo out (4 * j : Nat)) dL_law_1240 (show 6 < 7 by decide) rfl ?_
    refine r_aload_n (x := mo) dL_law_1242 rfl rfl ?_
    refine ro_call0 hG (r2 := M'.1 36) (σ2 := (mk1 M', C')) (v := some (wi (M'.1 36))) (X2 := (fX12_thrown M').map (fun q => (q.1, (mk1 q.2, C')))) rfl rfl (m_ct (c_X12_thrown (Γ := (b0, bG, cy, mCells cy mo (maA mo), g)) (mo := mo) (ma := maA mo) rfl M')) (inv_V (As := []) (rest := []) kv_X12_thrown (by decide) um_law_115 rfl (Nat.le_of_ble_eq_true rfl) dL_law_1243 (fun H s hK hR => m_recL H s hK hR)) ?_
    refine r_iload (x := kk) dL_law_1246 rfl ?_
    refine ro_t (c := w32 (M'.1 36) = w32 kk) (by rw [h36]) ?_
    refine r_icmp_eq (tgt := 1253) dL_law_1248 (by decide) ?_ ro_none
    refine r_iload (x := kk) dL_law_1253 rfl ?_
    by_cases hz : kk = 0
    · refine ro_f (c := ¬ w32 kk = 0) (fun z => z (by rw [hz]; rfl)) ?_
      refine r_if_ne (tgt := 1270) dL_law_1255 (by decide) ro_none ?_
      refine r_aload_n (x := out) dL_law_1258 rfl rfl ?_
      refine ro_iconst (v := 0) dL_law_1259 rfl ?_
      refine r_lld ho'.1 (by rw [ho'.2]; decide) dL_law_1260 ?_
      rw [show cE C' out (ix 0) = w32 y from hout hz]
      refine r_iload (x := y) dL_law_1261 rfl ?_
      refine r_i2l dL_law_1263 ?_
      refine r_lcmpE dL_law_1264 ?_
      refine ro_t (c := w32 0 = 0) rfl ?_
      refine r_if_eq (tgt := 1270) dL_law_1265 (by decide) ?_ ro_none
      refine r_goto (tgt := 2122) dL_law_1270 (by decide) ?_
      exact r_lo [2, 3, 4, 5, 6] (lo2 := loM sb b mo out (4 * j : Nat)) rfl K
    · refine ro_t (c := ¬ w32 kk = 0) (fun z => hz (w32_k0 hk0 z)) ?_
      refine r_if_ne (tgt := 1270) dL_law_1255 (by decide) ?_ ro_none
      refine r_goto (tgt := 2122) dL_law_1270 (by decide) ?_
      exact r_lo [2, 3, 4, 5, 6] (lo2 := loM sb b mo out (4 * j : Nat)) rfl K
  · have hb := hR.1.1.o
    obtain ⟨M', C', y, kk, hY, hR', hm, ho', eW, h36, hk0, hout⟩ := wrapE (tb := fun e => if e = 2 then some 1 else none) (S := [2]) hR (call_read hR (by omega) (i32_of _)) (EO.use (ex_fX11_read b ((xs (ix ((4 * j : Nat) + (1 : Int)))).toInt) 1 C)) (by decide) (GO.use (gr_fX11_read b ((xs (ix ((4 * j : Nat) + (1 : Int)))).toInt) 1 C)) ho.1 ho.2 hbo
    have q1 : inR ((4 * j : Nat) + (1 : Int)) Ls := inR_s (by omega) (by omega)
    have q2 : inR ((4 * j : Nat) + (2 : Int)) Ls := inR_s (by omega) (by omega)
    have q3 : inR ((4 * j : Nat) + (3 : Int)) Ls := inR_s (by omega) (by omega)
    refine ⟨M', C', hR', hm, ho', fun X K => ?_⟩
    refine r_aload_n (x := b) dL_law_1189 rfl rfl ?_
    refine r_aload_n (x := sb) dL_law_1190 rfl rfl ?_
    refine r_iload (x := (4 * j : Nat)) dL_law_1191 rfl ?_
    refine ro_iconst (v := 1) dL_law_1193 rfl ?_
    refine r_iadd dL_law_1194 ?_
    refine r_xld hxs q1 dL_law_1195 ?_
    refine r_aload_n (x := sb) dL_law_1196 rfl rfl ?_
    refine r_iload (x := (4 * j : Nat)) dL_law_1197 rfl ?_
    refine ro_iconst (v := 2) dL_law_1199 rfl ?_
    refine r_iadd dL_law_1200 ?_
    refine r_xld hxs q2 dL_law_1201 ?_
    refine ro_f (c := w32 ((xs (ix ((4 * j : Nat) + (2 : Int)))).toInt) = 0) hw ?_
    refine r_if_eq (tgt := 1209) dL_law_1202 (by decide) ro_none ?_
    refine ro_iconst (v := 1) dL_law_1205 rfl ?_
    refine r_goto (tgt := 1210) dL_law_1206 (by decide) ?_
    refine r_aload_n (x := out) dL_law_1210 rfl rfl ?_
    refine ro_callW (r2 := kk) (σ2 := (mk1 M, C')) (As := [.ref b, wi ((xs (ix ((4 * j : Nat) + (1 : Int)))).toInt), wi 1, .ref out]) (rest := []) (by rw [show fL_read b ((xs (ix ((4 * j : Nat) + (1 : Int)))).toInt) 1 out C = some (kk, C') from (if_pos hb).trans eW]; rfl) kv_L_read (w_ct (c_L_read hG hXN b ((xs (ix ((4 * j : Nat) + (1 : Int)))).toInt) 1 out C)) (by decide) um_law_167 rfl (Nat.le_of_ble_eq_true rfl) dL_law_1211 rfl ?_
    refine r_istore (x := kk) (lo2 := (5, wi kk) :: loM sb b mo out (4 * j : Nat)) dL_law_1214 (show 5 < 7 by decide) rfl ?_
    refine r_aload_n (x := mo) dL_law_1216 rfl rfl ?_
    refine r_aload_n (x := sb) dL_law_1217 rfl rfl ?_
    refine r_iload (x := (4 * j : Nat)) dL_law_1218 rfl ?_
    refine ro_iconst (v := 1) dL_law_1220 rfl ?_
    refine r_iadd dL_law_1221 ?_
    refine r_xld hxs q1 dL_law_1222 ?_
    refine r_aload_n (x := sb) dL_law_1223 rfl rfl ?_
    refine r_iload (x := (4 * j : Nat)) dL_law_1224 rfl ?_
    refine ro_iconst (v := 2) dL_law_1226 rfl ?_
    refine r_iadd dL_law_1227 ?_
    refine r_xld hxs q2 dL_law_1228 ?_
    refine ro_f (c := w32 ((xs (ix ((4 * j : Nat) + (2 : Int)))).toInt) = 0) hw ?_
    refine r_if_eq (tgt := 1236) dL_law_1229 (by decide) ro_none ?_
    refine ro_iconst (v := 1) dL_law_1232 rfl ?_
    refine r_goto (tgt := 1237) dL_law_1233 (by decide) ?_
    refine ro_call0 hG (r2 := y) (σ2 := (mk1 M', C')) (v := some (wi y)) (X2 := (fX12_read ((xs (ix ((4 * j : Nat) + (1 : Int)))).toInt) 1 M).map (fun q => (q.1, (mk1 q.2, C')))) (by rw [hY]; rfl) rfl (m_ct (c_X12_read (Γ := (b0, bG, cy, mCells cy mo (maA mo), g)) (mo := mo) (ma := maA mo) rfl ((xs (ix ((4 * j : Nat) + (1 : Int)))).toInt) 1 M)) (inv_V (As := [wi ((xs (ix ((4 * j : Nat) + (1 : Int)))).toInt), wi 1]) (rest := []) kv_X12_read (by decide) um_law_170 rfl (Nat.le_of_ble_eq_true rfl) dL_law_1237 (fun H s hK hR => m_recL H s hK hR)) ?_
    refine r_istore (x := y) (lo2 := (6, wi y) :: (5, wi kk) :: loM sb b mo out (4 * j : Nat)) dL_law_1240 (show 6 < 7 by decide) rfl ?_
    refine r_aload_n (x := mo) dL_law_1242 rfl rfl ?_
    refine ro_call0 hG (r2 := M'.1 36) (σ2 := (mk1 M', C')) (v := some (wi (M'.1 36))) (X2 := (fX12_thrown M').map (fun q => (q.1, (mk1 q.2, C')))) rfl rfl (m_ct (c_X12_thrown (Γ := (b0, bG, cy, mCells cy mo (maA mo), g)) (mo := mo) (ma := maA mo) rfl M')) (inv_V (As := []) (rest := []) kv_X12_thrown (by decide) um_law_115 rfl (Nat.le_of_ble_eq_true rfl) dL_law_1243 (fun H s hK hR => m_recL H s hK hR)) ?_
    refine r_iload (x := kk) dL_law_1246 rfl ?_
    refine ro_t (c := w32 (M'.1 36) = w32 kk) (by rw [h36]) ?_
    refine r_icmp_eq (tgt := 1253) dL_law_1248 (by decide) ?_ ro_none
    refine r_iload (x := kk) dL_law_1253 rfl ?_
    by_cases hz : kk = 0
    · refine ro_f (c := ¬ w32 kk = 0) (fun z => z (by rw [hz]; rfl)) ?_
      refine r_if_ne (tgt := 1270) dL_law_1255 (by decide) ro_none ?_
      refine r_aload_n (x := out) dL_law_1258 rfl rfl ?_
      refine ro_iconst (v := 0) dL_law_1259 rfl ?_
      refine r_lld ho'.1 (by rw [ho'.2]; decide) dL_law_1260 ?_
      rw [show cE C' out (ix 0) = w32 y from hout hz]
      refine r_iload (x := y) dL_law_1261 rfl ?_
      refine r_i2l dL_law_1263 ?_
      refine r_lcmpE dL_law_1264 ?_
      refine ro_t (c := w32 0 = 0) rfl ?_
      refine r_if_eq (tgt := 1270) dL_law_1265 (by decide) ?_ ro_none
      refine r_goto (tgt := 2122) dL_law_1270 (by decide) ?_
      exact r_lo [2, 3, 4, 5, 6] (lo2 := loM sb b mo out (4 * j : Nat)) rfl K
    · refine ro_t (c := ¬ w32 kk = 0) (fun z => hz (w32_k0 hk0 z)) ?_
      refine r_if_ne (tgt := 1270) dL_law_1255 (by decide) ?_ ro_none
      refine r_goto (tgt := 2122) dL_law_1270 (by decide) ?_
      exact r_lo [2, 3, 4, 5, 6] (lo2 := loM sb b mo out (4 * j : Nat)) rfl K
set_option maxHeartbeats 8000000 in
set_option maxRecDepth 100000 in
theorem case_clock {l : Launch} {b0 : Nat} {bG : va_G} {cy : Nat → ClassId} {g : State → Heap → Prop} {sb b mo out Ls kc j : Nat} {xs : Nat → Int32} {T : List ExceptionTableEntry} {M : Md} {C : Cd} {sT : Nat → Nat} (hG : GK (b0, bG, cy, fS cy mo, g) l) (hXN : XN (b0, bG, cy, fS cy mo, g)) (hS : STs (b0, bG, cy, fS cy mo, g) sT) (hxs : XScr (b0, bG, cy, fS cy mo, g) sb Ls xs) (hj : 4 * j + 4 ≤ Ls) (hLs : Ls ≤ 2048) (hR : RR b kc M C) (hk : kc < 512) (ho : isO C out 108 ∧ cn C out = 1) (hbo : b + 854 ≤ out) :
    ∃ M' C', RR b (kc + 1) M' C' ∧ RmL b C C' ∧ (isO C' out 108 ∧ cn C' out = 1) ∧ ∀ X : Option (Int × St), RunO l (b0, bG, cy, fS cy mo, g) (kL T) 16 encI emL 2122 (loM sb b mo out (4 * j : Nat)) [] (mk1 M', C') X → RunO l (b0, bG, cy, fS cy mo, g) (kL T) 16 encI emL 1273 (loM sb b mo out (4 * j : Nat)) [] (mk1 M, C) X := by
  have hb := hR.1.1.o
  obtain ⟨M', C', y, hY, hR', hm, hX⟩ := call_clock hR 
  obtain ⟨g1, g2, g3⟩ := GO.use (gr_fX11_clock b C) _ _ hX hR.1.1.W out ho.1.1
  refine ⟨M', C', hR', hm, ⟨⟨g1, g2.trans ho.1.2⟩, g3.trans ho.2⟩, fun X K => ?_⟩
  refine r_aload_n (x := b) dL_law_1273 rfl rfl ?_
  refine ro_call0 hG (r2 := y) (σ2 := (mk1 M, C')) (v := some (wi y)) (X2 := (fX11_clock b C).map (fun q => (q.1, (mk1 M, q.2)))) (by rw [hX]; rfl) rfl (c_ct (c_X11_clock hG b C)) (inv_V (As := []) (rest := []) kv_X11_clock (by decide) um_law_171 rfl (Nat.le_of_ble_eq_true rfl) dL_law_1274 (fun H s hK hR => c_rec hb hc_X11 (by decide) H s hK hR)) ?_
  refine r_aload_n (x := mo) dL_law_1277 rfl rfl ?_
  refine ro_call0 hG (r2 := y) (σ2 := (mk1 M', C')) (v := some (wi y)) (X2 := (fX12_clock M).map (fun q => (q.1, (mk1 q.2, C')))) (by rw [hY]; rfl) rfl (m_ct (c_X12_clock (Γ := (b0, bG, cy, mCells cy mo (maA mo), g)) (mo := mo) (ma := maA mo) rfl M)) (inv_V (As := []) (rest := [wi y]) kv_X12_clock (by decide) um_law_174 rfl (Nat.le_of_ble_eq_true rfl) dL_law_1278 (fun H s hK hR => m_recL H s hK hR)) ?_
  refine ro_t (c := w32 y = w32 y) rfl ?_
  exact r_icmp_eq (tgt := 2122) dL_law_1281 (by decide) K ro_none
set_option maxHeartbeats 8000000 in
set_option maxRecDepth 100000 in
theorem case_versions {l : Launch} {b0 : Nat} {bG : va_G} {cy : Nat → ClassId} {g : State → Heap → Prop} {sb b mo out Ls kc j : Nat} {xs : Nat → Int32} {T : List ExceptionTableEntry} {M : Md} {C : Cd} {sT : Nat → Nat} (hG : GK (b0, bG, cy, fS cy mo, g) l) (hXN : XN (b0, bG, cy, fS cy mo, g)) (hS : STs (b0, bG, cy, fS cy mo, g) sT) (hxs : XScr (b0, bG, cy, fS cy mo, g) sb Ls xs) (hj : 4 * j + 4 ≤ Ls) (hLs : Ls ≤ 2048) (hR : RR b kc M C) (hk : kc < 512) (ho : isO C out 108 ∧ cn C out = 1) (hbo : b + 854 ≤ out) :
    ∃ M' C', RR b (kc + 1) M' C' ∧ RmL b C C' ∧ (isO C' out 108 ∧ cn C' out = 1) ∧ ∀ X : Option (Int × St), RunO l (b0, bG, cy, fS cy mo, g) (kL T) 16 encI emL 2122 (loM sb b mo out (4 * j : Nat)) [] (mk1 M', C') X → RunO l (b0, bG, cy, fS cy mo, g) (kL T) 16 encI emL 1286 (loM sb b mo out (4 * j : Nat)) [] (mk1 M, C) X := by
  have hb := hR.1.1.o
  obtain ⟨M', C', y, kk, hY, hR', hm, ho', eW, h36, hk0, hout⟩ := wrapE (tb := fun e => if e = 2 then some 1 else none) (S := [2]) hR (call_versions hR (i32_of _)) (EO.use (ex_fX11_versions b ((xs (ix ((4 * j : Nat) + (1 : Int)))).toInt) C)) (by decide) (GO.use (gr_fX11_versions b ((xs (ix ((4 * j : Nat) + (1 : Int)))).toInt) C)) ho.1 ho.2 hbo
  have q1 : inR ((4 * j : Nat) + (1 : Int)) Ls := inR_s (by omega) (by omega)
  have q2 : inR ((4 * j : Nat) + (2 : Int)) Ls := inR_s (by omega) (by omega)
  have q3 : inR ((4 * j : Nat) + (3 : Int)) Ls := inR_s (by omega) (by omega)
  refine ⟨M', C', hR', hm, ho', fun X K => ?_⟩
  refine r_aload_n (x := b) dL_law_1286 rfl rfl ?_
  refine r_aload_n (x := sb) dL_law_1287 rfl rfl ?_
  refine r_iload (x := (4 * j : Nat)) dL_law_1288 rfl ?_
  refine ro_iconst (v := 1) dL_law_1290 rfl ?_
  refine r_iadd dL_law_1291 ?_
  refine r_xld hxs q1 dL_law_1292 ?_
  refine r_aload_n (x := out) dL_law_1293 rfl rfl ?_
  refine ro_callW (r2 := kk) (σ2 := (mk1 M, C')) (As := [.ref b, wi ((xs (ix ((4 * j : Nat) + (1 : Int)))).toInt), .ref out]) (rest := []) (by rw [show fL_versions b ((xs (ix ((4 * j : Nat) + (1 : Int)))).toInt) out C = some (kk, C') from (if_pos hb).trans eW]; rfl) kv_L_versions (w_ct (c_L_versions hG hXN b ((xs (ix ((4 * j : Nat) + (1 : Int)))).toInt) out C)) (by decide) um_law_175 rfl (Nat.le_of_ble_eq_true rfl) dL_law_1294 rfl ?_
  refine r_istore (x := kk) (lo2 := (5, wi kk) :: loM sb b mo out (4 * j : Nat)) dL_law_1297 (show 5 < 7 by decide) rfl ?_
  refine r_aload_n (x := mo) dL_law_1299 rfl rfl ?_
  refine r_aload_n (x := sb) dL_law_1300 rfl rfl ?_
  refine r_iload (x := (4 * j : Nat)) dL_law_1301 rfl ?_
  refine ro_iconst (v := 1) dL_law_1303 rfl ?_
  refine r_iadd dL_law_1304 ?_
  refine r_xld hxs q1 dL_law_1305 ?_
  refine ro_call0 hG (r2 := y) (σ2 := (mk1 M', C')) (v := some (wi y)) (X2 := (fX12_versions ((xs (ix ((4 * j : Nat) + (1 : Int)))).toInt) M).map (fun q => (q.1, (mk1 q.2, C')))) (by rw [hY]; rfl) rfl (m_ct (c_X12_versions (Γ := (b0, bG, cy, mCells cy mo (maA mo), g)) (mo := mo) (ma := maA mo) rfl ((xs (ix ((4 * j : Nat) + (1 : Int)))).toInt) M)) (inv_V (As := [wi ((xs (ix ((4 * j : Nat) + (1 : Int)))).toInt)]) (rest := []) kv_X12_versions (by decide) um_law_177 rfl (Nat.le_of_ble_eq_true rfl) dL_law_1306 (fun H s hK hR => m_recL H s hK hR)) ?_
  refine r_istore (x := y) (lo2 := (6, wi y) :: (5, wi kk) :: loM sb b mo out (4 * j : Nat)) dL_law_1309 (show 6 < 7 by decide) rfl ?_
  refine r_aload_n (x := mo) dL_law_1311 rfl rfl ?_
  refine ro_call0 hG (r2 := M'.1 36) (σ2 := (mk1 M', C')) (v := some (wi (M'.1 36))) (X2 := (fX12_thrown M').map (fun q => (q.1, (mk1 q.2, C')))) rfl rfl (m_ct (c_X12_thrown (Γ := (b0, bG, cy, mCells cy mo (maA mo), g)) (mo := mo) (ma := maA mo) rfl M')) (inv_V (As := []) (rest := []) kv_X12_thrown (by decide) um_law_115 rfl (Nat.le_of_ble_eq_true rfl) dL_law_1312 (fun H s hK hR => m_recL H s hK hR)) ?_
  refine r_iload (x := kk) dL_law_1315 rfl ?_
  refine ro_t (c := w32 (M'.1 36) = w32 kk) (by rw [h36]) ?_
  refine r_icmp_eq (tgt := 1322) dL_law_1317 (by decide) ?_ ro_none
  refine r_iload (x := kk) dL_law_1322 rfl ?_
  by_cases hz : kk = 0
  · refine ro_f (c := ¬ w32 kk = 0) (fun z => z (by rw [hz]; rfl)) ?_
    refine r_if_ne (tgt := 1339) dL_law_1324 (by decide) ro_none ?_
    refine r_aload_n (x := out) dL_law_1327 rfl rfl ?_
    refine ro_iconst (v := 0) dL_law_1328 rfl ?_
    refine r_lld ho'.1 (by rw [ho'.2]; decide) dL_law_1329 ?_
    rw [show cE C' out (ix 0) = w32 y from hout hz]
    refine r_iload (x := y) dL_law_1330 rfl ?_
    refine r_i2l dL_law_1332 ?_
    refine r_lcmpE dL_law_1333 ?_
    refine ro_t (c := w32 0 = 0) rfl ?_
    refine r_if_eq (tgt := 1339) dL_law_1334 (by decide) ?_ ro_none
    refine r_goto (tgt := 2122) dL_law_1339 (by decide) ?_
    exact r_lo [2, 3, 4, 5, 6] (lo2 := loM sb b mo out (4 * j : Nat)) rfl K
  · refine ro_t (c := ¬ w32 kk = 0) (fun z => hz (w32_k0 hk0 z)) ?_
    refine r_if_ne (tgt := 1339) dL_law_1324 (by decide) ?_ ro_none
    refine r_goto (tgt := 2122) dL_law_1339 (by decide) ?_
    exact r_lo [2, 3, 4, 5, 6] (lo2 := loM sb b mo out (4 * j : Nat)) rfl K
set_option maxHeartbeats 8000000 in
set_option maxRecDepth 100000 in
theorem case_versionAt {l : Launch} {b0 : Nat} {bG : va_G} {cy : Nat → ClassId} {g : State → Heap → Prop} {sb b mo out Ls kc j : Nat} {xs : Nat → Int32} {T : List ExceptionTableEntry} {M : Md} {C : Cd} {sT : Nat → Nat} (hG : GK (b0, bG, cy, fS cy mo, g) l) (hXN : XN (b0, bG, cy, fS cy mo, g)) (hS : STs (b0, bG, cy, fS cy mo, g) sT) (hxs : XScr (b0, bG, cy, fS cy mo, g) sb Ls xs) (hj : 4 * j + 4 ≤ Ls) (hLs : Ls ≤ 2048) (hR : RR b kc M C) (hk : kc < 512) (ho : isO C out 108 ∧ cn C out = 1) (hbo : b + 854 ≤ out) :
    ∃ M' C', RR b (kc + 1) M' C' ∧ RmL b C C' ∧ (isO C' out 108 ∧ cn C' out = 1) ∧ ∀ X : Option (Int × St), RunO l (b0, bG, cy, fS cy mo, g) (kL T) 16 encI emL 2122 (loM sb b mo out (4 * j : Nat)) [] (mk1 M', C') X → RunO l (b0, bG, cy, fS cy mo, g) (kL T) 16 encI emL 1342 (loM sb b mo out (4 * j : Nat)) [] (mk1 M, C) X := by
  have hb := hR.1.1.o
  obtain ⟨M', C', y, kk, hY, hR', hm, ho', eW, h36, hk0, hout⟩ := wrapE (tb := fun e => if e = 2 then some 1 else none) (S := [2]) hR (call_versionAt hR (i32_of _) (i32_of _)) (EO.use (ex_fX11_versionAt b ((xs (ix ((4 * j : Nat) + (1 : Int)))).toInt) ((xs (ix ((4 * j : Nat) + (2 : Int)))).toInt) C)) (by decide) (GO.use (gr_fX11_versionAt b ((xs (ix ((4 * j : Nat) + (1 : Int)))).toInt) ((xs (ix ((4 * j : Nat) + (2 : Int)))).toInt) C)) ho.1 ho.2 hbo
  have q1 : inR ((4 * j : Nat) + (1 : Int)) Ls := inR_s (by omega) (by omega)
  have q2 : inR ((4 * j : Nat) + (2 : Int)) Ls := inR_s (by omega) (by omega)
  have q3 : inR ((4 * j : Nat) + (3 : Int)) Ls := inR_s (by omega) (by omega)
  refine ⟨M', C', hR', hm, ho', fun X K => ?_⟩
  refine r_aload_n (x := b) dL_law_1342 rfl rfl ?_
  refine r_aload_n (x := sb) dL_law_1343 rfl rfl ?_
  refine r_iload (x := (4 * j : Nat)) dL_law_1344 rfl ?_
  refine ro_iconst (v := 1) dL_law_1346 rfl ?_
  refine r_iadd dL_law_1347 ?_
  refine r_xld hxs q1 dL_law_1348 ?_
  refine r_aload_n (x := sb) dL_law_1349 rfl rfl ?_
  refine r_iload (x := (4 * j : Nat)) dL_law_1350 rfl ?_
  refine ro_iconst (v := 2) dL_law_1352 rfl ?_
  refine r_iadd dL_law_1353 ?_
  refine r_xld hxs q2 dL_law_1354 ?_
  refine r_aload_n (x := out) dL_law_1355 rfl rfl ?_
  refine ro_callW (r2 := kk) (σ2 := (mk1 M, C')) (As := [.ref b, wi ((xs (ix ((4 * j : Nat) + (1 : Int)))).toInt), wi ((xs (ix ((4 * j : Nat) + (2 : Int)))).toInt), .ref out]) (rest := []) (by rw [show fL_versionAt b ((xs (ix ((4 * j : Nat) + (1 : Int)))).toInt) ((xs (ix ((4 * j : Nat) + (2 : Int)))).toInt) out C = some (kk, C') from (if_pos hb).trans eW]; rfl) kv_L_versionAt (w_ct (c_L_versionAt hG hXN b ((xs (ix ((4 * j : Nat) + (1 : Int)))).toInt) ((xs (ix ((4 * j : Nat) + (2 : Int)))).toInt) out C)) (by decide) um_law_178 rfl (Nat.le_of_ble_eq_true rfl) dL_law_1356 rfl ?_
  refine r_istore (x := kk) (lo2 := (5, wi kk) :: loM sb b mo out (4 * j : Nat)) dL_law_1359 (show 5 < 7 by decide) rfl ?_
  refine r_aload_n (x := mo) dL_law_1361 rfl rfl ?_
  refine r_aload_n (x := sb) dL_law_1362 rfl rfl ?_
  refine r_iload (x := (4 * j : Nat)) dL_law_1363 rfl ?_
  refine ro_iconst (v := 1) dL_law_1365 rfl ?_
  refine r_iadd dL_law_1366 ?_
  refine r_xld hxs q1 dL_law_1367 ?_
  refine r_aload_n (x := sb) dL_law_1368 rfl rfl ?_
  refine r_iload (x := (4 * j : Nat)) dL_law_1369 rfl ?_
  refine ro_iconst (v := 2) dL_law_1371 rfl ?_
  refine r_iadd dL_law_1372 ?_
  refine r_xld hxs q2 dL_law_1373 ?_
  refine ro_call0 hG (r2 := y) (σ2 := (mk1 M', C')) (v := some (wi y)) (X2 := (fX12_versionAt ((xs (ix ((4 * j : Nat) + (1 : Int)))).toInt) ((xs (ix ((4 * j : Nat) + (2 : Int)))).toInt) M).map (fun q => (q.1, (mk1 q.2, C')))) (by rw [hY]; rfl) rfl (m_ct (c_X12_versionAt (Γ := (b0, bG, cy, mCells cy mo (maA mo), g)) (mo := mo) (ma := maA mo) rfl ((xs (ix ((4 * j : Nat) + (1 : Int)))).toInt) ((xs (ix ((4 * j : Nat) + (2 : Int)))).toInt) M)) (inv_V (As := [wi ((xs (ix ((4 * j : Nat) + (1 : Int)))).toInt), wi ((xs (ix ((4 * j : Nat) + (2 : Int)))).toInt)]) (rest := []) kv_X12_versionAt (by decide) um_law_180 rfl (Nat.le_of_ble_eq_true rfl) dL_law_1374 (fun H s hK hR => m_recL H s hK hR)) ?_
  refine r_istore (x := y) (lo2 := (6, wi y) :: (5, wi kk) :: loM sb b mo out (4 * j : Nat)) dL_law_1377 (show 6 < 7 by decide) rfl ?_
  refine r_aload_n (x := mo) dL_law_1379 rfl rfl ?_
  refine ro_call0 hG (r2 := M'.1 36) (σ2 := (mk1 M', C')) (v := some (wi (M'.1 36))) (X2 := (fX12_thrown M').map (fun q => (q.1, (mk1 q.2, C')))) rfl rfl (m_ct (c_X12_thrown (Γ := (b0, bG, cy, mCells cy mo (maA mo), g)) (mo := mo) (ma := maA mo) rfl M')) (inv_V (As := []) (rest := []) kv_X12_thrown (by decide) um_law_115 rfl (Nat.le_of_ble_eq_true rfl) dL_law_1380 (fun H s hK hR => m_recL H s hK hR)) ?_
  refine r_iload (x := kk) dL_law_1383 rfl ?_
  refine ro_t (c := w32 (M'.1 36) = w32 kk) (by rw [h36]) ?_
  refine r_icmp_eq (tgt := 1390) dL_law_1385 (by decide) ?_ ro_none
  refine r_iload (x := kk) dL_law_1390 rfl ?_
  by_cases hz : kk = 0
  · refine ro_f (c := ¬ w32 kk = 0) (fun z => z (by rw [hz]; rfl)) ?_
    refine r_if_ne (tgt := 1407) dL_law_1392 (by decide) ro_none ?_
    refine r_aload_n (x := out) dL_law_1395 rfl rfl ?_
    refine ro_iconst (v := 0) dL_law_1396 rfl ?_
    refine r_lld ho'.1 (by rw [ho'.2]; decide) dL_law_1397 ?_
    rw [show cE C' out (ix 0) = w32 y from hout hz]
    refine r_iload (x := y) dL_law_1398 rfl ?_
    refine r_i2l dL_law_1400 ?_
    refine r_lcmpE dL_law_1401 ?_
    refine ro_t (c := w32 0 = 0) rfl ?_
    refine r_if_eq (tgt := 1407) dL_law_1402 (by decide) ?_ ro_none
    refine r_goto (tgt := 2122) dL_law_1407 (by decide) ?_
    exact r_lo [2, 3, 4, 5, 6] (lo2 := loM sb b mo out (4 * j : Nat)) rfl K
  · refine ro_t (c := ¬ w32 kk = 0) (fun z => hz (w32_k0 hk0 z)) ?_
    refine r_if_ne (tgt := 1407) dL_law_1392 (by decide) ?_ ro_none
    refine r_goto (tgt := 2122) dL_law_1407 (by decide) ?_
    exact r_lo [2, 3, 4, 5, 6] (lo2 := loM sb b mo out (4 * j : Nat)) rfl K
set_option maxHeartbeats 8000000 in
set_option maxRecDepth 100000 in
theorem case_tokenAt {l : Launch} {b0 : Nat} {bG : va_G} {cy : Nat → ClassId} {g : State → Heap → Prop} {sb b mo out Ls kc j : Nat} {xs : Nat → Int32} {T : List ExceptionTableEntry} {M : Md} {C : Cd} {sT : Nat → Nat} (hG : GK (b0, bG, cy, fS cy mo, g) l) (hXN : XN (b0, bG, cy, fS cy mo, g)) (hS : STs (b0, bG, cy, fS cy mo, g) sT) (hxs : XScr (b0, bG, cy, fS cy mo, g) sb Ls xs) (hj : 4 * j + 4 ≤ Ls) (hLs : Ls ≤ 2048) (hR : RR b kc M C) (hk : kc < 512) (ho : isO C out 108 ∧ cn C out = 1) (hbo : b + 854 ≤ out) :
    ∃ M' C', RR b (kc + 1) M' C' ∧ RmL b C C' ∧ (isO C' out 108 ∧ cn C' out = 1) ∧ ∀ X : Option (Int × St), RunO l (b0, bG, cy, fS cy mo, g) (kL T) 16 encI emL 2122 (loM sb b mo out (4 * j : Nat)) [] (mk1 M', C') X → RunO l (b0, bG, cy, fS cy mo, g) (kL T) 16 encI emL 1410 (loM sb b mo out (4 * j : Nat)) [] (mk1 M, C) X := by
  have hb := hR.1.1.o
  obtain ⟨M', C', y, kk, hY, hR', hm, ho', eW, h36, hk0, hout⟩ := wrapE (tb := fun e => if e = 2 then some 1 else none) (S := [2]) hR (call_tokenAt hR (i32_of _) (i32_of _)) (EO.use (ex_fX11_tokenAt b ((xs (ix ((4 * j : Nat) + (1 : Int)))).toInt) ((xs (ix ((4 * j : Nat) + (2 : Int)))).toInt) C)) (by decide) (GO.use (gr_fX11_tokenAt b ((xs (ix ((4 * j : Nat) + (1 : Int)))).toInt) ((xs (ix ((4 * j : Nat) + (2 : Int)))).toInt) C)) ho.1 ho.2 hbo
  have q1 : inR ((4 * j : Nat) + (1 : Int)) Ls := inR_s (by omega) (by omega)
  have q2 : inR ((4 * j : Nat) + (2 : Int)) Ls := inR_s (by omega) (by omega)
  have q3 : inR ((4 * j : Nat) + (3 : Int)) Ls := inR_s (by omega) (by omega)
  refine ⟨M', C', hR', hm, ho', fun X K => ?_⟩
  refine r_aload_n (x := b) dL_law_1410 rfl rfl ?_
  refine r_aload_n (x := sb) dL_law_1411 rfl rfl ?_
  refine r_iload (x := (4 * j : Nat)) dL_law_1412 rfl ?_
  refine ro_iconst (v := 1) dL_law_1414 rfl ?_
  refine r_iadd dL_law_1415 ?_
  refine r_xld hxs q1 dL_law_1416 ?_
  refine r_aload_n (x := sb) dL_law_1417 rfl rfl ?_
  refine r_iload (x := (4 * j : Nat)) dL_law_1418 rfl ?_
  refine ro_iconst (v := 2) dL_law_1420 rfl ?_
  refine r_iadd dL_law_1421 ?_
  refine r_xld hxs q2 dL_law_1422 ?_
  refine r_aload_n (x := out) dL_law_1423 rfl rfl ?_
  refine ro_callW (r2 := kk) (σ2 := (mk1 M, C')) (As := [.ref b, wi ((xs (ix ((4 * j : Nat) + (1 : Int)))).toInt), wi ((xs (ix ((4 * j : Nat) + (2 : Int)))).toInt), .ref out]) (rest := []) (by rw [show fL_tokenAt b ((xs (ix ((4 * j : Nat) + (1 : Int)))).toInt) ((xs (ix ((4 * j : Nat) + (2 : Int)))).toInt) out C = some (kk, C') from (if_pos hb).trans eW]; rfl) kv_L_tokenAt (w_ct (c_L_tokenAt hG hXN b ((xs (ix ((4 * j : Nat) + (1 : Int)))).toInt) ((xs (ix ((4 * j : Nat) + (2 : Int)))).toInt) out C)) (by decide) um_law_181 rfl (Nat.le_of_ble_eq_true rfl) dL_law_1424 rfl ?_
  refine r_istore (x := kk) (lo2 := (5, wi kk) :: loM sb b mo out (4 * j : Nat)) dL_law_1427 (show 5 < 7 by decide) rfl ?_
  refine r_aload_n (x := mo) dL_law_1429 rfl rfl ?_
  refine r_aload_n (x := sb) dL_law_1430 rfl rfl ?_
  refine r_iload (x := (4 * j : Nat)) dL_law_1431 rfl ?_
  refine ro_iconst (v := 1) dL_law_1433 rfl ?_
  refine r_iadd dL_law_1434 ?_
  refine r_xld hxs q1 dL_law_1435 ?_
  refine r_aload_n (x := sb) dL_law_1436 rfl rfl ?_
  refine r_iload (x := (4 * j : Nat)) dL_law_1437 rfl ?_
  refine ro_iconst (v := 2) dL_law_1439 rfl ?_
  refine r_iadd dL_law_1440 ?_
  refine r_xld hxs q2 dL_law_1441 ?_
  refine ro_call0 hG (r2 := y) (σ2 := (mk1 M', C')) (v := some (wi y)) (X2 := (fX12_tokenAt ((xs (ix ((4 * j : Nat) + (1 : Int)))).toInt) ((xs (ix ((4 * j : Nat) + (2 : Int)))).toInt) M).map (fun q => (q.1, (mk1 q.2, C')))) (by rw [hY]; rfl) rfl (m_ct (c_X12_tokenAt (Γ := (b0, bG, cy, mCells cy mo (maA mo), g)) (mo := mo) (ma := maA mo) rfl ((xs (ix ((4 * j : Nat) + (1 : Int)))).toInt) ((xs (ix ((4 * j : Nat) + (2 : Int)))).toInt) M)) (inv_V (As := [wi ((xs (ix ((4 * j : Nat) + (1 : Int)))).toInt), wi ((xs (ix ((4 * j : Nat) + (2 : Int)))).toInt)]) (rest := []) kv_X12_tokenAt (by decide) um_law_183 rfl (Nat.le_of_ble_eq_true rfl) dL_law_1442 (fun H s hK hR => m_recL H s hK hR)) ?_
  refine r_istore (x := y) (lo2 := (6, wi y) :: (5, wi kk) :: loM sb b mo out (4 * j : Nat)) dL_law_1445 (show 6 < 7 by decide) rfl ?_
  refine r_aload_n (x := mo) dL_law_1447 rfl rfl ?_
  refine ro_call0 hG (r2 := M'.1 36) (σ2 := (mk1 M', C')) (v := some (wi (M'.1 36))) (X2 := (fX12_thrown M').map (fun q => (q.1, (mk1 q.2, C')))) rfl rfl (m_ct (c_X12_thrown (Γ := (b0, bG, cy, mCells cy mo (maA mo), g)) (mo := mo) (ma := maA mo) rfl M')) (inv_V (As := []) (rest := []) kv_X12_thrown (by decide) um_law_115 rfl (Nat.le_of_ble_eq_true rfl) dL_law_1448 (fun H s hK hR => m_recL H s hK hR)) ?_
  refine r_iload (x := kk) dL_law_1451 rfl ?_
  refine ro_t (c := w32 (M'.1 36) = w32 kk) (by rw [h36]) ?_
  refine r_icmp_eq (tgt := 1458) dL_law_1453 (by decide) ?_ ro_none
  refine r_iload (x := kk) dL_law_1458 rfl ?_
  by_cases hz : kk = 0
  · refine ro_f (c := ¬ w32 kk = 0) (fun z => z (by rw [hz]; rfl)) ?_
    refine r_if_ne (tgt := 1475) dL_law_1460 (by decide) ro_none ?_
    refine r_aload_n (x := out) dL_law_1463 rfl rfl ?_
    refine ro_iconst (v := 0) dL_law_1464 rfl ?_
    refine r_lld ho'.1 (by rw [ho'.2]; decide) dL_law_1465 ?_
    rw [show cE C' out (ix 0) = w32 y from hout hz]
    refine r_iload (x := y) dL_law_1466 rfl ?_
    refine r_i2l dL_law_1468 ?_
    refine r_lcmpE dL_law_1469 ?_
    refine ro_t (c := w32 0 = 0) rfl ?_
    refine r_if_eq (tgt := 1475) dL_law_1470 (by decide) ?_ ro_none
    refine r_goto (tgt := 2122) dL_law_1475 (by decide) ?_
    exact r_lo [2, 3, 4, 5, 6] (lo2 := loM sb b mo out (4 * j : Nat)) rfl K
  · refine ro_t (c := ¬ w32 kk = 0) (fun z => hz (w32_k0 hk0 z)) ?_
    refine r_if_ne (tgt := 1475) dL_law_1460 (by decide) ?_ ro_none
    refine r_goto (tgt := 2122) dL_law_1475 (by decide) ?_
    exact r_lo [2, 3, 4, 5, 6] (lo2 := loM sb b mo out (4 * j : Nat)) rfl K
set_option maxHeartbeats 8000000 in
set_option maxRecDepth 100000 in
theorem case_leads {l : Launch} {b0 : Nat} {bG : va_G} {cy : Nat → ClassId} {g : State → Heap → Prop} {sb b mo out Ls kc j : Nat} {xs : Nat → Int32} {T : List ExceptionTableEntry} {M : Md} {C : Cd} {sT : Nat → Nat} (hG : GK (b0, bG, cy, fS cy mo, g) l) (hXN : XN (b0, bG, cy, fS cy mo, g)) (hS : STs (b0, bG, cy, fS cy mo, g) sT) (hxs : XScr (b0, bG, cy, fS cy mo, g) sb Ls xs) (hj : 4 * j + 4 ≤ Ls) (hLs : Ls ≤ 2048) (hR : RR b kc M C) (hk : kc < 512) (ho : isO C out 108 ∧ cn C out = 1) (hbo : b + 854 ≤ out) :
    ∃ M' C', RR b (kc + 1) M' C' ∧ RmL b C C' ∧ (isO C' out 108 ∧ cn C' out = 1) ∧ ∀ X : Option (Int × St), RunO l (b0, bG, cy, fS cy mo, g) (kL T) 16 encI emL 2122 (loM sb b mo out (4 * j : Nat)) [] (mk1 M', C') X → RunO l (b0, bG, cy, fS cy mo, g) (kL T) 16 encI emL 1478 (loM sb b mo out (4 * j : Nat)) [] (mk1 M, C) X := by
  have hb := hR.1.1.o
  obtain ⟨M', C', y, kk, hY, hR', hm, ho', eW, h36, hk0, hout⟩ := wrapE (tb := fun e => if e = 2 then some 1 else none) (S := [2]) hR (call_leads hR (by omega) (i32_of _)) (EO.use (ex_fX11_leads b ((xs (ix ((4 * j : Nat) + (1 : Int)))).toInt) C)) (by decide) (GO.use (gr_fX11_leads b ((xs (ix ((4 * j : Nat) + (1 : Int)))).toInt) C)) ho.1 ho.2 hbo
  have q1 : inR ((4 * j : Nat) + (1 : Int)) Ls := inR_s (by omega) (by omega)
  have q2 : inR ((4 * j : Nat) + (2 : Int)) Ls := inR_s (by omega) (by omega)
  have q3 : inR ((4 * j : Nat) + (3 : Int)) Ls := inR_s (by omega) (by omega)
  refine ⟨M', C', hR', hm, ho', fun X K => ?_⟩
  refine r_aload_n (x := b) dL_law_1478 rfl rfl ?_
  refine r_aload_n (x := sb) dL_law_1479 rfl rfl ?_
  refine r_iload (x := (4 * j : Nat)) dL_law_1480 rfl ?_
  refine ro_iconst (v := 1) dL_law_1482 rfl ?_
  refine r_iadd dL_law_1483 ?_
  refine r_xld hxs q1 dL_law_1484 ?_
  refine r_aload_n (x := out) dL_law_1485 rfl rfl ?_
  refine ro_callW (r2 := kk) (σ2 := (mk1 M, C')) (As := [.ref b, wi ((xs (ix ((4 * j : Nat) + (1 : Int)))).toInt), .ref out]) (rest := []) (by rw [show fL_leads b ((xs (ix ((4 * j : Nat) + (1 : Int)))).toInt) out C = some (kk, C') from (if_pos hb).trans eW]; rfl) kv_L_leads (w_ct (c_L_leads hG hXN b ((xs (ix ((4 * j : Nat) + (1 : Int)))).toInt) out C)) (by decide) um_law_184 rfl (Nat.le_of_ble_eq_true rfl) dL_law_1486 rfl ?_
  refine r_istore (x := kk) (lo2 := (5, wi kk) :: loM sb b mo out (4 * j : Nat)) dL_law_1489 (show 5 < 7 by decide) rfl ?_
  refine r_aload_n (x := mo) dL_law_1491 rfl rfl ?_
  refine r_aload_n (x := sb) dL_law_1492 rfl rfl ?_
  refine r_iload (x := (4 * j : Nat)) dL_law_1493 rfl ?_
  refine ro_iconst (v := 1) dL_law_1495 rfl ?_
  refine r_iadd dL_law_1496 ?_
  refine r_xld hxs q1 dL_law_1497 ?_
  refine ro_call0 hG (r2 := y) (σ2 := (mk1 M', C')) (v := some (wi y)) (X2 := (fX12_leads ((xs (ix ((4 * j : Nat) + (1 : Int)))).toInt) M).map (fun q => (q.1, (mk1 q.2, C')))) (by rw [hY]; rfl) rfl (m_ct (c_X12_leads (Γ := (b0, bG, cy, mCells cy mo (maA mo), g)) (mo := mo) (ma := maA mo) rfl ((xs (ix ((4 * j : Nat) + (1 : Int)))).toInt) M)) (inv_V (As := [wi ((xs (ix ((4 * j : Nat) + (1 : Int)))).toInt)]) (rest := []) kv_X12_leads (by decide) um_law_186 rfl (Nat.le_of_ble_eq_true rfl) dL_law_1498 (fun H s hK hR => m_recL H s hK hR)) ?_
  refine r_istore (x := y) (lo2 := (6, wi y) :: (5, wi kk) :: loM sb b mo out (4 * j : Nat)) dL_law_1501 (show 6 < 7 by decide) rfl ?_
  refine r_aload_n (x := mo) dL_law_1503 rfl rfl ?_
  refine ro_call0 hG (r2 := M'.1 36) (σ2 := (mk1 M', C')) (v := some (wi (M'.1 36))) (X2 := (fX12_thrown M').map (fun q => (q.1, (mk1 q.2, C')))) rfl rfl (m_ct (c_X12_thrown (Γ := (b0, bG, cy, mCells cy mo (maA mo), g)) (mo := mo) (ma := maA mo) rfl M')) (inv_V (As := []) (rest := []) kv_X12_thrown (by decide) um_law_115 rfl (Nat.le_of_ble_eq_true rfl) dL_law_1504 (fun H s hK hR => m_recL H s hK hR)) ?_
  refine r_iload (x := kk) dL_law_1507 rfl ?_
  refine ro_t (c := w32 (M'.1 36) = w32 kk) (by rw [h36]) ?_
  refine r_icmp_eq (tgt := 1514) dL_law_1509 (by decide) ?_ ro_none
  refine r_iload (x := kk) dL_law_1514 rfl ?_
  by_cases hz : kk = 0
  · refine ro_f (c := ¬ w32 kk = 0) (fun z => z (by rw [hz]; rfl)) ?_
    refine r_if_ne (tgt := 1531) dL_law_1516 (by decide) ro_none ?_
    refine r_aload_n (x := out) dL_law_1519 rfl rfl ?_
    refine ro_iconst (v := 0) dL_law_1520 rfl ?_
    refine r_lld ho'.1 (by rw [ho'.2]; decide) dL_law_1521 ?_
    rw [show cE C' out (ix 0) = w32 y from hout hz]
    refine r_iload (x := y) dL_law_1522 rfl ?_
    refine r_i2l dL_law_1524 ?_
    refine r_lcmpE dL_law_1525 ?_
    refine ro_t (c := w32 0 = 0) rfl ?_
    refine r_if_eq (tgt := 1531) dL_law_1526 (by decide) ?_ ro_none
    refine r_goto (tgt := 2122) dL_law_1531 (by decide) ?_
    exact r_lo [2, 3, 4, 5, 6] (lo2 := loM sb b mo out (4 * j : Nat)) rfl K
  · refine ro_t (c := ¬ w32 kk = 0) (fun z => hz (w32_k0 hk0 z)) ?_
    refine r_if_ne (tgt := 1531) dL_law_1516 (by decide) ?_ ro_none
    refine r_goto (tgt := 2122) dL_law_1531 (by decide) ?_
    exact r_lo [2, 3, 4, 5, 6] (lo2 := loM sb b mo out (4 * j : Nat)) rfl K
set_option maxHeartbeats 8000000 in
set_option maxRecDepth 100000 in
theorem case_isStale {l : Launch} {b0 : Nat} {bG : va_G} {cy : Nat → ClassId} {g : State → Heap → Prop} {sb b mo out Ls kc j : Nat} {xs : Nat → Int32} {T : List ExceptionTableEntry} {M : Md} {C : Cd} {sT : Nat → Nat} (hG : GK (b0, bG, cy, fS cy mo, g) l) (hXN : XN (b0, bG, cy, fS cy mo, g)) (hS : STs (b0, bG, cy, fS cy mo, g) sT) (hxs : XScr (b0, bG, cy, fS cy mo, g) sb Ls xs) (hj : 4 * j + 4 ≤ Ls) (hLs : Ls ≤ 2048) (hR : RR b kc M C) (hk : kc < 512) (ho : isO C out 108 ∧ cn C out = 1) (hbo : b + 854 ≤ out) :
    ∃ M' C', RR b (kc + 1) M' C' ∧ RmL b C C' ∧ (isO C' out 108 ∧ cn C' out = 1) ∧ ∀ X : Option (Int × St), RunO l (b0, bG, cy, fS cy mo, g) (kL T) 16 encI emL 2122 (loM sb b mo out (4 * j : Nat)) [] (mk1 M', C') X → RunO l (b0, bG, cy, fS cy mo, g) (kL T) 16 encI emL 1534 (loM sb b mo out (4 * j : Nat)) [] (mk1 M, C) X := by
  have hb := hR.1.1.o
  obtain ⟨M', C', y, kk, hY, hR', hm, ho', eW, h36, hk0, hout⟩ := wrapEZ (tb := fun e => if e = 2 then some 1 else none) (S := [2]) hR (call_isStale hR (by omega) (i32_of _)) (EO.use (ex_fX11_isStale b ((xs (ix ((4 * j : Nat) + (1 : Int)))).toInt) C)) (by decide) (GO.use (gr_fX11_isStale b ((xs (ix ((4 * j : Nat) + (1 : Int)))).toInt) C)) ho.1 ho.2 hbo
  have q1 : inR ((4 * j : Nat) + (1 : Int)) Ls := inR_s (by omega) (by omega)
  have q2 : inR ((4 * j : Nat) + (2 : Int)) Ls := inR_s (by omega) (by omega)
  have q3 : inR ((4 * j : Nat) + (3 : Int)) Ls := inR_s (by omega) (by omega)
  refine ⟨M', C', hR', hm, ho', fun X K => ?_⟩
  refine r_aload_n (x := b) dL_law_1534 rfl rfl ?_
  refine r_aload_n (x := sb) dL_law_1535 rfl rfl ?_
  refine r_iload (x := (4 * j : Nat)) dL_law_1536 rfl ?_
  refine ro_iconst (v := 1) dL_law_1538 rfl ?_
  refine r_iadd dL_law_1539 ?_
  refine r_xld hxs q1 dL_law_1540 ?_
  refine r_aload_n (x := out) dL_law_1541 rfl rfl ?_
  refine ro_callW (r2 := kk) (σ2 := (mk1 M, C')) (As := [.ref b, wi ((xs (ix ((4 * j : Nat) + (1 : Int)))).toInt), .ref out]) (rest := []) (by rw [show fL_isStale b ((xs (ix ((4 * j : Nat) + (1 : Int)))).toInt) out C = some (kk, C') from (if_pos hb).trans eW]; rfl) kv_L_isStale (w_ct (c_L_isStale hG hXN b ((xs (ix ((4 * j : Nat) + (1 : Int)))).toInt) out C)) (by decide) um_law_187 rfl (Nat.le_of_ble_eq_true rfl) dL_law_1542 rfl ?_
  refine r_istore (x := kk) (lo2 := (5, wi kk) :: loM sb b mo out (4 * j : Nat)) dL_law_1545 (show 5 < 7 by decide) rfl ?_
  refine r_aload_n (x := mo) dL_law_1547 rfl rfl ?_
  refine r_aload_n (x := sb) dL_law_1548 rfl rfl ?_
  refine r_iload (x := (4 * j : Nat)) dL_law_1549 rfl ?_
  refine ro_iconst (v := 1) dL_law_1551 rfl ?_
  refine r_iadd dL_law_1552 ?_
  refine r_xld hxs q1 dL_law_1553 ?_
  refine ro_call0 hG (r2 := y) (σ2 := (mk1 M', C')) (v := some (wi y)) (X2 := (fX12_isStale ((xs (ix ((4 * j : Nat) + (1 : Int)))).toInt) M).map (fun q => (q.1, (mk1 q.2, C')))) (by rw [hY]; rfl) rfl (m_ct (c_X12_isStale (Γ := (b0, bG, cy, mCells cy mo (maA mo), g)) (mo := mo) (ma := maA mo) rfl ((xs (ix ((4 * j : Nat) + (1 : Int)))).toInt) M)) (inv_V (As := [wi ((xs (ix ((4 * j : Nat) + (1 : Int)))).toInt)]) (rest := []) kv_X12_isStale (by decide) um_law_189 rfl (Nat.le_of_ble_eq_true rfl) dL_law_1554 (fun H s hK hR => m_recL H s hK hR)) ?_
  refine r_istore (x := y) (lo2 := (6, wi y) :: (5, wi kk) :: loM sb b mo out (4 * j : Nat)) dL_law_1557 (show 6 < 7 by decide) rfl ?_
  refine r_aload_n (x := mo) dL_law_1559 rfl rfl ?_
  refine ro_call0 hG (r2 := M'.1 36) (σ2 := (mk1 M', C')) (v := some (wi (M'.1 36))) (X2 := (fX12_thrown M').map (fun q => (q.1, (mk1 q.2, C')))) rfl rfl (m_ct (c_X12_thrown (Γ := (b0, bG, cy, mCells cy mo (maA mo), g)) (mo := mo) (ma := maA mo) rfl M')) (inv_V (As := []) (rest := []) kv_X12_thrown (by decide) um_law_115 rfl (Nat.le_of_ble_eq_true rfl) dL_law_1560 (fun H s hK hR => m_recL H s hK hR)) ?_
  refine r_iload (x := kk) dL_law_1563 rfl ?_
  refine ro_t (c := w32 (M'.1 36) = w32 kk) (by rw [h36]) ?_
  refine r_icmp_eq (tgt := 1570) dL_law_1565 (by decide) ?_ ro_none
  refine r_iload (x := kk) dL_law_1570 rfl ?_
  by_cases hz : kk = 0
  · refine ro_f (c := ¬ w32 kk = 0) (fun z => z (by rw [hz]; rfl)) ?_
    refine r_if_ne (tgt := 1594) dL_law_1572 (by decide) ro_none ?_
    refine r_aload_n (x := out) dL_law_1575 rfl rfl ?_
    refine ro_iconst (v := 0) dL_law_1576 rfl ?_
    refine r_lld ho'.1 (by rw [ho'.2]; decide) dL_law_1577 ?_
    rw [show cE C' out (ix 0) = (if w32 y = 0 then 0 else 1) from hout hz]
    refine r_iload (x := y) dL_law_1578 rfl ?_
    by_cases hy : w32 y = 0
    · rw [if_pos hy]
      refine ro_t (c := w32 y = 0) hy ?_
      refine r_if_eq (tgt := 1587) dL_law_1580 (by decide) ?_ ro_none
      refine r_lconst (x := 0) dL_law_1587 (by decide) ?_
      refine r_lcmpE dL_law_1588 ?_
      refine ro_t (c := w32 0 = 0) rfl ?_
      refine r_if_eq (tgt := 1594) dL_law_1589 (by decide) ?_ ro_none
      refine r_goto (tgt := 2122) dL_law_1594 (by decide) ?_
      exact r_lo [2, 3, 4, 5, 6] (lo2 := loM sb b mo out (4 * j : Nat)) rfl K
    · rw [if_neg hy]
      refine ro_f (c := w32 y = 0) hy ?_
      refine r_if_eq (tgt := 1587) dL_law_1580 (by decide) ro_none ?_
      refine r_lconst (x := 1) dL_law_1583 (by decide) ?_
      refine r_goto (tgt := 1588) dL_law_1584 (by decide) ?_
      refine r_lcmpE dL_law_1588 ?_
      refine ro_t (c := w32 0 = 0) rfl ?_
      refine r_if_eq (tgt := 1594) dL_law_1589 (by decide) ?_ ro_none
      refine r_goto (tgt := 2122) dL_law_1594 (by decide) ?_
      exact r_lo [2, 3, 4, 5, 6] (lo2 := loM sb b mo out (4 * j : Nat)) rfl K
  · refine ro_t (c := ¬ w32 kk = 0) (fun z => hz (w32_k0 hk0 z)) ?_
    refine r_if_ne (tgt := 1594) dL_law_1572 (by decide) ?_ ro_none
    refine r_goto (tgt := 2122) dL_law_1594 (by decide) ?_
    exact r_lo [2, 3, 4, 5, 6] (lo2 := loM sb b mo out (4 * j : Nat)) rfl K
set_option maxHeartbeats 8000000 in
set_option maxRecDepth 100000 in
theorem case_queued {l : Launch} {b0 : Nat} {bG : va_G} {cy : Nat → ClassId} {g : State → Heap → Prop} {sb b mo out Ls kc j : Nat} {xs : Nat → Int32} {T : List ExceptionTableEntry} {M : Md} {C : Cd} {sT : Nat → Nat} (hG : GK (b0, bG, cy, fS cy mo, g) l) (hXN : XN (b0, bG, cy, fS cy mo, g)) (hS : STs (b0, bG, cy, fS cy mo, g) sT) (hxs : XScr (b0, bG, cy, fS cy mo, g) sb Ls xs) (hj : 4 * j + 4 ≤ Ls) (hLs : Ls ≤ 2048) (hR : RR b kc M C) (hk : kc < 512) (ho : isO C out 108 ∧ cn C out = 1) (hbo : b + 854 ≤ out) :
    ∃ M' C', RR b (kc + 1) M' C' ∧ RmL b C C' ∧ (isO C' out 108 ∧ cn C' out = 1) ∧ ∀ X : Option (Int × St), RunO l (b0, bG, cy, fS cy mo, g) (kL T) 16 encI emL 2122 (loM sb b mo out (4 * j : Nat)) [] (mk1 M', C') X → RunO l (b0, bG, cy, fS cy mo, g) (kL T) 16 encI emL 1597 (loM sb b mo out (4 * j : Nat)) [] (mk1 M, C) X := by
  have hb := hR.1.1.o
  obtain ⟨M', C', y, hY, hR', hm, hX⟩ := call_queued hR (by omega)
  obtain ⟨g1, g2, g3⟩ := GO.use (gr_fX11_queued b C) _ _ hX hR.1.1.W out ho.1.1
  refine ⟨M', C', hR', hm, ⟨⟨g1, g2.trans ho.1.2⟩, g3.trans ho.2⟩, fun X K => ?_⟩
  refine r_aload_n (x := b) dL_law_1597 rfl rfl ?_
  refine ro_call0 hG (r2 := y) (σ2 := (mk1 M, C')) (v := some (wi y)) (X2 := (fX11_queued b C).map (fun q => (q.1, (mk1 M, q.2)))) (by rw [hX]; rfl) rfl (c_ct (c_X11_queued hG b C)) (inv_V (As := []) (rest := []) kv_X11_queued (by decide) um_law_190 rfl (Nat.le_of_ble_eq_true rfl) dL_law_1598 (fun H s hK hR => c_rec hb hc_X11 (by decide) H s hK hR)) ?_
  refine r_aload_n (x := mo) dL_law_1601 rfl rfl ?_
  refine ro_call0 hG (r2 := y) (σ2 := (mk1 M', C')) (v := some (wi y)) (X2 := (fX12_queued M).map (fun q => (q.1, (mk1 q.2, C')))) (by rw [hY]; rfl) rfl (m_ct (c_X12_queued (Γ := (b0, bG, cy, mCells cy mo (maA mo), g)) (mo := mo) (ma := maA mo) rfl M)) (inv_V (As := []) (rest := [wi y]) kv_X12_queued (by decide) um_law_193 rfl (Nat.le_of_ble_eq_true rfl) dL_law_1602 (fun H s hK hR => m_recL H s hK hR)) ?_
  refine ro_t (c := w32 y = w32 y) rfl ?_
  exact r_icmp_eq (tgt := 2122) dL_law_1605 (by decide) K ro_none
set_option maxHeartbeats 8000000 in
set_option maxRecDepth 100000 in
theorem case_shown {l : Launch} {b0 : Nat} {bG : va_G} {cy : Nat → ClassId} {g : State → Heap → Prop} {sb b mo out Ls kc j : Nat} {xs : Nat → Int32} {T : List ExceptionTableEntry} {M : Md} {C : Cd} {sT : Nat → Nat} (hG : GK (b0, bG, cy, fS cy mo, g) l) (hXN : XN (b0, bG, cy, fS cy mo, g)) (hS : STs (b0, bG, cy, fS cy mo, g) sT) (hxs : XScr (b0, bG, cy, fS cy mo, g) sb Ls xs) (hj : 4 * j + 4 ≤ Ls) (hLs : Ls ≤ 2048) (hR : RR b kc M C) (hk : kc < 512) (ho : isO C out 108 ∧ cn C out = 1) (hbo : b + 854 ≤ out) :
    ∃ M' C', RR b (kc + 1) M' C' ∧ RmL b C C' ∧ (isO C' out 108 ∧ cn C' out = 1) ∧ ∀ X : Option (Int × St), RunO l (b0, bG, cy, fS cy mo, g) (kL T) 16 encI emL 2122 (loM sb b mo out (4 * j : Nat)) [] (mk1 M', C') X → RunO l (b0, bG, cy, fS cy mo, g) (kL T) 16 encI emL 1610 (loM sb b mo out (4 * j : Nat)) [] (mk1 M, C) X := by
  have hb := hR.1.1.o
  obtain ⟨M', C', y, kk, hY, hR', hm, ho', eW, h36, hk0, hout⟩ := wrapE (tb := fun e => if e = 2 then some 1 else none) (S := [2]) hR (call_shown hR (i32_of _) (i32_of _)) (EO.use (ex_fX11_shown b ((xs (ix ((4 * j : Nat) + (1 : Int)))).toInt) ((xs (ix ((4 * j : Nat) + (2 : Int)))).toInt) C)) (by decide) (GO.use (gr_fX11_shown b ((xs (ix ((4 * j : Nat) + (1 : Int)))).toInt) ((xs (ix ((4 * j : Nat) + (2 : Int)))).toInt) C)) ho.1 ho.2 hbo
  have q1 : inR ((4 * j : Nat) + (1 : Int)) Ls := inR_s (by omega) (by omega)
  have q2 : inR ((4 * j : Nat) + (2 : Int)) Ls := inR_s (by omega) (by omega)
  have q3 : inR ((4 * j : Nat) + (3 : Int)) Ls := inR_s (by omega) (by omega)
  refine ⟨M', C', hR', hm, ho', fun X K => ?_⟩
  refine r_aload_n (x := b) dL_law_1610 rfl rfl ?_
  refine r_aload_n (x := sb) dL_law_1611 rfl rfl ?_
  refine r_iload (x := (4 * j : Nat)) dL_law_1612 rfl ?_
  refine ro_iconst (v := 1) dL_law_1614 rfl ?_
  refine r_iadd dL_law_1615 ?_
  refine r_xld hxs q1 dL_law_1616 ?_
  refine r_aload_n (x := sb) dL_law_1617 rfl rfl ?_
  refine r_iload (x := (4 * j : Nat)) dL_law_1618 rfl ?_
  refine ro_iconst (v := 2) dL_law_1620 rfl ?_
  refine r_iadd dL_law_1621 ?_
  refine r_xld hxs q2 dL_law_1622 ?_
  refine r_aload_n (x := out) dL_law_1623 rfl rfl ?_
  refine ro_callW (r2 := kk) (σ2 := (mk1 M, C')) (As := [.ref b, wi ((xs (ix ((4 * j : Nat) + (1 : Int)))).toInt), wi ((xs (ix ((4 * j : Nat) + (2 : Int)))).toInt), .ref out]) (rest := []) (by rw [show fL_shown b ((xs (ix ((4 * j : Nat) + (1 : Int)))).toInt) ((xs (ix ((4 * j : Nat) + (2 : Int)))).toInt) out C = some (kk, C') from (if_pos hb).trans eW]; rfl) kv_L_shown (w_ct (c_L_shown hG hXN b ((xs (ix ((4 * j : Nat) + (1 : Int)))).toInt) ((xs (ix ((4 * j : Nat) + (2 : Int)))).toInt) out C)) (by decide) um_law_194 rfl (Nat.le_of_ble_eq_true rfl) dL_law_1624 rfl ?_
  refine r_istore (x := kk) (lo2 := (5, wi kk) :: loM sb b mo out (4 * j : Nat)) dL_law_1627 (show 5 < 7 by decide) rfl ?_
  refine r_aload_n (x := mo) dL_law_1629 rfl rfl ?_
  refine r_aload_n (x := sb) dL_law_1630 rfl rfl ?_
  refine r_iload (x := (4 * j : Nat)) dL_law_1631 rfl ?_
  refine ro_iconst (v := 1) dL_law_1633 rfl ?_
  refine r_iadd dL_law_1634 ?_
  refine r_xld hxs q1 dL_law_1635 ?_
  refine r_aload_n (x := sb) dL_law_1636 rfl rfl ?_
  refine r_iload (x := (4 * j : Nat)) dL_law_1637 rfl ?_
  refine ro_iconst (v := 2) dL_law_1639 rfl ?_
  refine r_iadd dL_law_1640 ?_
  refine r_xld hxs q2 dL_law_1641 ?_
  refine ro_call0 hG (r2 := y) (σ2 := (mk1 M', C')) (v := some (wi y)) (X2 := (fX12_shown ((xs (ix ((4 * j : Nat) + (1 : Int)))).toInt) ((xs (ix ((4 * j : Nat) + (2 : Int)))).toInt) M).map (fun q => (q.1, (mk1 q.2, C')))) (by rw [hY]; rfl) rfl (m_ct (c_X12_shown (Γ := (b0, bG, cy, mCells cy mo (maA mo), g)) (mo := mo) (ma := maA mo) rfl ((xs (ix ((4 * j : Nat) + (1 : Int)))).toInt) ((xs (ix ((4 * j : Nat) + (2 : Int)))).toInt) M)) (inv_V (As := [wi ((xs (ix ((4 * j : Nat) + (1 : Int)))).toInt), wi ((xs (ix ((4 * j : Nat) + (2 : Int)))).toInt)]) (rest := []) kv_X12_shown (by decide) um_law_196 rfl (Nat.le_of_ble_eq_true rfl) dL_law_1642 (fun H s hK hR => m_recL H s hK hR)) ?_
  refine r_istore (x := y) (lo2 := (6, wi y) :: (5, wi kk) :: loM sb b mo out (4 * j : Nat)) dL_law_1645 (show 6 < 7 by decide) rfl ?_
  refine r_aload_n (x := mo) dL_law_1647 rfl rfl ?_
  refine ro_call0 hG (r2 := M'.1 36) (σ2 := (mk1 M', C')) (v := some (wi (M'.1 36))) (X2 := (fX12_thrown M').map (fun q => (q.1, (mk1 q.2, C')))) rfl rfl (m_ct (c_X12_thrown (Γ := (b0, bG, cy, mCells cy mo (maA mo), g)) (mo := mo) (ma := maA mo) rfl M')) (inv_V (As := []) (rest := []) kv_X12_thrown (by decide) um_law_115 rfl (Nat.le_of_ble_eq_true rfl) dL_law_1648 (fun H s hK hR => m_recL H s hK hR)) ?_
  refine r_iload (x := kk) dL_law_1651 rfl ?_
  refine ro_t (c := w32 (M'.1 36) = w32 kk) (by rw [h36]) ?_
  refine r_icmp_eq (tgt := 1658) dL_law_1653 (by decide) ?_ ro_none
  refine r_iload (x := kk) dL_law_1658 rfl ?_
  by_cases hz : kk = 0
  · refine ro_f (c := ¬ w32 kk = 0) (fun z => z (by rw [hz]; rfl)) ?_
    refine r_if_ne (tgt := 1675) dL_law_1660 (by decide) ro_none ?_
    refine r_aload_n (x := out) dL_law_1663 rfl rfl ?_
    refine ro_iconst (v := 0) dL_law_1664 rfl ?_
    refine r_lld ho'.1 (by rw [ho'.2]; decide) dL_law_1665 ?_
    rw [show cE C' out (ix 0) = w32 y from hout hz]
    refine r_iload (x := y) dL_law_1666 rfl ?_
    refine r_i2l dL_law_1668 ?_
    refine r_lcmpE dL_law_1669 ?_
    refine ro_t (c := w32 0 = 0) rfl ?_
    refine r_if_eq (tgt := 1675) dL_law_1670 (by decide) ?_ ro_none
    refine r_goto (tgt := 2122) dL_law_1675 (by decide) ?_
    exact r_lo [2, 3, 4, 5, 6] (lo2 := loM sb b mo out (4 * j : Nat)) rfl K
  · refine ro_t (c := ¬ w32 kk = 0) (fun z => hz (w32_k0 hk0 z)) ?_
    refine r_if_ne (tgt := 1675) dL_law_1660 (by decide) ?_ ro_none
    refine r_goto (tgt := 2122) dL_law_1675 (by decide) ?_
    exact r_lo [2, 3, 4, 5, 6] (lo2 := loM sb b mo out (4 * j : Nat)) rfl K
set_option maxHeartbeats 8000000 in
set_option maxRecDepth 100000 in
theorem case_shownAnew {l : Launch} {b0 : Nat} {bG : va_G} {cy : Nat → ClassId} {g : State → Heap → Prop} {sb b mo out Ls kc j : Nat} {xs : Nat → Int32} {T : List ExceptionTableEntry} {M : Md} {C : Cd} {sT : Nat → Nat} (hG : GK (b0, bG, cy, fS cy mo, g) l) (hXN : XN (b0, bG, cy, fS cy mo, g)) (hS : STs (b0, bG, cy, fS cy mo, g) sT) (hxs : XScr (b0, bG, cy, fS cy mo, g) sb Ls xs) (hj : 4 * j + 4 ≤ Ls) (hLs : Ls ≤ 2048) (hR : RR b kc M C) (hk : kc < 512) (ho : isO C out 108 ∧ cn C out = 1) (hbo : b + 854 ≤ out) :
    ∃ M' C', RR b (kc + 1) M' C' ∧ RmL b C C' ∧ (isO C' out 108 ∧ cn C' out = 1) ∧ ∀ X : Option (Int × St), RunO l (b0, bG, cy, fS cy mo, g) (kL T) 16 encI emL 2122 (loM sb b mo out (4 * j : Nat)) [] (mk1 M', C') X → RunO l (b0, bG, cy, fS cy mo, g) (kL T) 16 encI emL 1678 (loM sb b mo out (4 * j : Nat)) [] (mk1 M, C) X := by
  have hb := hR.1.1.o
  obtain ⟨M', C', y, kk, hY, hR', hm, ho', eW, h36, hk0, hout⟩ := wrapE (tb := fun e => if e = 2 then some 1 else none) (S := [2]) hR (call_shownAnew hR (by omega) (i32_of _) (i32_of _)) (EO.use (ex_fX11_shownAnew b ((xs (ix ((4 * j : Nat) + (1 : Int)))).toInt) ((xs (ix ((4 * j : Nat) + (2 : Int)))).toInt) C)) (by decide) (GO.use (gr_fX11_shownAnew b ((xs (ix ((4 * j : Nat) + (1 : Int)))).toInt) ((xs (ix ((4 * j : Nat) + (2 : Int)))).toInt) C)) ho.1 ho.2 hbo
  have q1 : inR ((4 * j : Nat) + (1 : Int)) Ls := inR_s (by omega) (by omega)
  have q2 : inR ((4 * j : Nat) + (2 : Int)) Ls := inR_s (by omega) (by omega)
  have q3 : inR ((4 * j : Nat) + (3 : Int)) Ls := inR_s (by omega) (by omega)
  refine ⟨M', C', hR', hm, ho', fun X K => ?_⟩
  refine r_aload_n (x := b) dL_law_1678 rfl rfl ?_
  refine r_aload_n (x := sb) dL_law_1679 rfl rfl ?_
  refine r_iload (x := (4 * j : Nat)) dL_law_1680 rfl ?_
  refine ro_iconst (v := 1) dL_law_1682 rfl ?_
  refine r_iadd dL_law_1683 ?_
  refine r_xld hxs q1 dL_law_1684 ?_
  refine r_aload_n (x := sb) dL_law_1685 rfl rfl ?_
  refine r_iload (x := (4 * j : Nat)) dL_law_1686 rfl ?_
  refine ro_iconst (v := 2) dL_law_1688 rfl ?_
  refine r_iadd dL_law_1689 ?_
  refine r_xld hxs q2 dL_law_1690 ?_
  refine r_aload_n (x := out) dL_law_1691 rfl rfl ?_
  refine ro_callW (r2 := kk) (σ2 := (mk1 M, C')) (As := [.ref b, wi ((xs (ix ((4 * j : Nat) + (1 : Int)))).toInt), wi ((xs (ix ((4 * j : Nat) + (2 : Int)))).toInt), .ref out]) (rest := []) (by rw [show fL_shownAnew b ((xs (ix ((4 * j : Nat) + (1 : Int)))).toInt) ((xs (ix ((4 * j : Nat) + (2 : Int)))).toInt) out C = some (kk, C') from (if_pos hb).trans eW]; rfl) kv_L_shownAnew (w_ct (c_L_shownAnew hG hXN b ((xs (ix ((4 * j : Nat) + (1 : Int)))).toInt) ((xs (ix ((4 * j : Nat) + (2 : Int)))).toInt) out C)) (by decide) um_law_197 rfl (Nat.le_of_ble_eq_true rfl) dL_law_1692 rfl ?_
  refine r_istore (x := kk) (lo2 := (5, wi kk) :: loM sb b mo out (4 * j : Nat)) dL_law_1695 (show 5 < 7 by decide) rfl ?_
  refine r_aload_n (x := mo) dL_law_1697 rfl rfl ?_
  refine r_aload_n (x := sb) dL_law_1698 rfl rfl ?_
  refine r_iload (x := (4 * j : Nat)) dL_law_1699 rfl ?_
  refine ro_iconst (v := 1) dL_law_1701 rfl ?_
  refine r_iadd dL_law_1702 ?_
  refine r_xld hxs q1 dL_law_1703 ?_
  refine r_aload_n (x := sb) dL_law_1704 rfl rfl ?_
  refine r_iload (x := (4 * j : Nat)) dL_law_1705 rfl ?_
  refine ro_iconst (v := 2) dL_law_1707 rfl ?_
  refine r_iadd dL_law_1708 ?_
  refine r_xld hxs q2 dL_law_1709 ?_
  refine ro_call0 hG (r2 := y) (σ2 := (mk1 M', C')) (v := some (wi y)) (X2 := (fX12_shownAnew ((xs (ix ((4 * j : Nat) + (1 : Int)))).toInt) ((xs (ix ((4 * j : Nat) + (2 : Int)))).toInt) M).map (fun q => (q.1, (mk1 q.2, C')))) (by rw [hY]; rfl) rfl (m_ct (c_X12_shownAnew (Γ := (b0, bG, cy, mCells cy mo (maA mo), g)) (mo := mo) (ma := maA mo) rfl ((xs (ix ((4 * j : Nat) + (1 : Int)))).toInt) ((xs (ix ((4 * j : Nat) + (2 : Int)))).toInt) M)) (inv_V (As := [wi ((xs (ix ((4 * j : Nat) + (1 : Int)))).toInt), wi ((xs (ix ((4 * j : Nat) + (2 : Int)))).toInt)]) (rest := []) kv_X12_shownAnew (by decide) um_law_199 rfl (Nat.le_of_ble_eq_true rfl) dL_law_1710 (fun H s hK hR => m_recL H s hK hR)) ?_
  refine r_istore (x := y) (lo2 := (6, wi y) :: (5, wi kk) :: loM sb b mo out (4 * j : Nat)) dL_law_1713 (show 6 < 7 by decide) rfl ?_
  refine r_aload_n (x := mo) dL_law_1715 rfl rfl ?_
  refine ro_call0 hG (r2 := M'.1 36) (σ2 := (mk1 M', C')) (v := some (wi (M'.1 36))) (X2 := (fX12_thrown M').map (fun q => (q.1, (mk1 q.2, C')))) rfl rfl (m_ct (c_X12_thrown (Γ := (b0, bG, cy, mCells cy mo (maA mo), g)) (mo := mo) (ma := maA mo) rfl M')) (inv_V (As := []) (rest := []) kv_X12_thrown (by decide) um_law_115 rfl (Nat.le_of_ble_eq_true rfl) dL_law_1716 (fun H s hK hR => m_recL H s hK hR)) ?_
  refine r_iload (x := kk) dL_law_1719 rfl ?_
  refine ro_t (c := w32 (M'.1 36) = w32 kk) (by rw [h36]) ?_
  refine r_icmp_eq (tgt := 1726) dL_law_1721 (by decide) ?_ ro_none
  refine r_iload (x := kk) dL_law_1726 rfl ?_
  by_cases hz : kk = 0
  · refine ro_f (c := ¬ w32 kk = 0) (fun z => z (by rw [hz]; rfl)) ?_
    refine r_if_ne (tgt := 1743) dL_law_1728 (by decide) ro_none ?_
    refine r_aload_n (x := out) dL_law_1731 rfl rfl ?_
    refine ro_iconst (v := 0) dL_law_1732 rfl ?_
    refine r_lld ho'.1 (by rw [ho'.2]; decide) dL_law_1733 ?_
    rw [show cE C' out (ix 0) = w32 y from hout hz]
    refine r_iload (x := y) dL_law_1734 rfl ?_
    refine r_i2l dL_law_1736 ?_
    refine r_lcmpE dL_law_1737 ?_
    refine ro_t (c := w32 0 = 0) rfl ?_
    refine r_if_eq (tgt := 1743) dL_law_1738 (by decide) ?_ ro_none
    refine r_goto (tgt := 2122) dL_law_1743 (by decide) ?_
    exact r_lo [2, 3, 4, 5, 6] (lo2 := loM sb b mo out (4 * j : Nat)) rfl K
  · refine ro_t (c := ¬ w32 kk = 0) (fun z => hz (w32_k0 hk0 z)) ?_
    refine r_if_ne (tgt := 1743) dL_law_1728 (by decide) ?_ ro_none
    refine r_goto (tgt := 2122) dL_law_1743 (by decide) ?_
    exact r_lo [2, 3, 4, 5, 6] (lo2 := loM sb b mo out (4 * j : Nat)) rfl K
set_option maxHeartbeats 8000000 in
set_option maxRecDepth 100000 in
theorem case_approvedAt {l : Launch} {b0 : Nat} {bG : va_G} {cy : Nat → ClassId} {g : State → Heap → Prop} {sb b mo out Ls kc j : Nat} {xs : Nat → Int32} {T : List ExceptionTableEntry} {M : Md} {C : Cd} {sT : Nat → Nat} (hG : GK (b0, bG, cy, fS cy mo, g) l) (hXN : XN (b0, bG, cy, fS cy mo, g)) (hS : STs (b0, bG, cy, fS cy mo, g) sT) (hxs : XScr (b0, bG, cy, fS cy mo, g) sb Ls xs) (hj : 4 * j + 4 ≤ Ls) (hLs : Ls ≤ 2048) (hR : RR b kc M C) (hk : kc < 512) (ho : isO C out 108 ∧ cn C out = 1) (hbo : b + 854 ≤ out) :
    ∃ M' C', RR b (kc + 1) M' C' ∧ RmL b C C' ∧ (isO C' out 108 ∧ cn C' out = 1) ∧ ∀ X : Option (Int × St), RunO l (b0, bG, cy, fS cy mo, g) (kL T) 16 encI emL 2122 (loM sb b mo out (4 * j : Nat)) [] (mk1 M', C') X → RunO l (b0, bG, cy, fS cy mo, g) (kL T) 16 encI emL 1746 (loM sb b mo out (4 * j : Nat)) [] (mk1 M, C) X := by
  have hb := hR.1.1.o
  obtain ⟨M', C', y, kk, hY, hR', hm, ho', eW, h36, hk0, hout⟩ := wrapE (tb := fun e => if e = 2 then some 1 else none) (S := [2]) hR (call_approvedAt hR (by omega) (i32_of _) (i32_of _)) (EO.use (ex_fX11_approvedAt b ((xs (ix ((4 * j : Nat) + (1 : Int)))).toInt) ((xs (ix ((4 * j : Nat) + (2 : Int)))).toInt) C)) (by decide) (GO.use (gr_fX11_approvedAt b ((xs (ix ((4 * j : Nat) + (1 : Int)))).toInt) ((xs (ix ((4 * j : Nat) + (2 : Int)))).toInt) C)) ho.1 ho.2 hbo
  have q1 : inR ((4 * j : Nat) + (1 : Int)) Ls := inR_s (by omega) (by omega)
  have q2 : inR ((4 * j : Nat) + (2 : Int)) Ls := inR_s (by omega) (by omega)
  have q3 : inR ((4 * j : Nat) + (3 : Int)) Ls := inR_s (by omega) (by omega)
  refine ⟨M', C', hR', hm, ho', fun X K => ?_⟩
  refine r_aload_n (x := b) dL_law_1746 rfl rfl ?_
  refine r_aload_n (x := sb) dL_law_1747 rfl rfl ?_
  refine r_iload (x := (4 * j : Nat)) dL_law_1748 rfl ?_
  refine ro_iconst (v := 1) dL_law_1750 rfl ?_
  refine r_iadd dL_law_1751 ?_
  refine r_xld hxs q1 dL_law_1752 ?_
  refine r_aload_n (x := sb) dL_law_1753 rfl rfl ?_
  refine r_iload (x := (4 * j : Nat)) dL_law_1754 rfl ?_
  refine ro_iconst (v := 2) dL_law_1756 rfl ?_
  refine r_iadd dL_law_1757 ?_
  refine r_xld hxs q2 dL_law_1758 ?_
  refine r_aload_n (x := out) dL_law_1759 rfl rfl ?_
  refine ro_callW (r2 := kk) (σ2 := (mk1 M, C')) (As := [.ref b, wi ((xs (ix ((4 * j : Nat) + (1 : Int)))).toInt), wi ((xs (ix ((4 * j : Nat) + (2 : Int)))).toInt), .ref out]) (rest := []) (by rw [show fL_approvedAt b ((xs (ix ((4 * j : Nat) + (1 : Int)))).toInt) ((xs (ix ((4 * j : Nat) + (2 : Int)))).toInt) out C = some (kk, C') from (if_pos hb).trans eW]; rfl) kv_L_approvedAt (w_ct (c_L_approvedAt hG hXN b ((xs (ix ((4 * j : Nat) + (1 : Int)))).toInt) ((xs (ix ((4 * j : Nat) + (2 : Int)))).toInt) out C)) (by decide) um_law_200 rfl (Nat.le_of_ble_eq_true rfl) dL_law_1760 rfl ?_
  refine r_istore (x := kk) (lo2 := (5, wi kk) :: loM sb b mo out (4 * j : Nat)) dL_law_1763 (show 5 < 7 by decide) rfl ?_
  refine r_aload_n (x := mo) dL_law_1765 rfl rfl ?_
  refine r_aload_n (x := sb) dL_law_1766 rfl rfl ?_
  refine r_iload (x := (4 * j : Nat)) dL_law_1767 rfl ?_
  refine ro_iconst (v := 1) dL_law_1769 rfl ?_
  refine r_iadd dL_law_1770 ?_
  refine r_xld hxs q1 dL_law_1771 ?_
  refine r_aload_n (x := sb) dL_law_1772 rfl rfl ?_
  refine r_iload (x := (4 * j : Nat)) dL_law_1773 rfl ?_
  refine ro_iconst (v := 2) dL_law_1775 rfl ?_
  refine r_iadd dL_law_1776 ?_
  refine r_xld hxs q2 dL_law_1777 ?_
  refine ro_call0 hG (r2 := y) (σ2 := (mk1 M', C')) (v := some (wi y)) (X2 := (fX12_approvedAt ((xs (ix ((4 * j : Nat) + (1 : Int)))).toInt) ((xs (ix ((4 * j : Nat) + (2 : Int)))).toInt) M).map (fun q => (q.1, (mk1 q.2, C')))) (by rw [hY]; rfl) rfl (m_ct (c_X12_approvedAt (Γ := (b0, bG, cy, mCells cy mo (maA mo), g)) (mo := mo) (ma := maA mo) rfl ((xs (ix ((4 * j : Nat) + (1 : Int)))).toInt) ((xs (ix ((4 * j : Nat) + (2 : Int)))).toInt) M)) (inv_V (As := [wi ((xs (ix ((4 * j : Nat) + (1 : Int)))).toInt), wi ((xs (ix ((4 * j : Nat) + (2 : Int)))).toInt)]) (rest := []) kv_X12_approvedAt (by decide) um_law_202 rfl (Nat.le_of_ble_eq_true rfl) dL_law_1778 (fun H s hK hR => m_recL H s hK hR)) ?_
  refine r_istore (x := y) (lo2 := (6, wi y) :: (5, wi kk) :: loM sb b mo out (4 * j : Nat)) dL_law_1781 (show 6 < 7 by decide) rfl ?_
  refine r_aload_n (x := mo) dL_law_1783 rfl rfl ?_
  refine ro_call0 hG (r2 := M'.1 36) (σ2 := (mk1 M', C')) (v := some (wi (M'.1 36))) (X2 := (fX12_thrown M').map (fun q => (q.1, (mk1 q.2, C')))) rfl rfl (m_ct (c_X12_thrown (Γ := (b0, bG, cy, mCells cy mo (maA mo), g)) (mo := mo) (ma := maA mo) rfl M')) (inv_V (As := []) (rest := []) kv_X12_thrown (by decide) um_law_115 rfl (Nat.le_of_ble_eq_true rfl) dL_law_1784 (fun H s hK hR => m_recL H s hK hR)) ?_
  refine r_iload (x := kk) dL_law_1787 rfl ?_
  refine ro_t (c := w32 (M'.1 36) = w32 kk) (by rw [h36]) ?_
  refine r_icmp_eq (tgt := 1794) dL_law_1789 (by decide) ?_ ro_none
  refine r_iload (x := kk) dL_law_1794 rfl ?_
  by_cases hz : kk = 0
  · refine ro_f (c := ¬ w32 kk = 0) (fun z => z (by rw [hz]; rfl)) ?_
    refine r_if_ne (tgt := 1811) dL_law_1796 (by decide) ro_none ?_
    refine r_aload_n (x := out) dL_law_1799 rfl rfl ?_
    refine ro_iconst (v := 0) dL_law_1800 rfl ?_
    refine r_lld ho'.1 (by rw [ho'.2]; decide) dL_law_1801 ?_
    rw [show cE C' out (ix 0) = w32 y from hout hz]
    refine r_iload (x := y) dL_law_1802 rfl ?_
    refine r_i2l dL_law_1804 ?_
    refine r_lcmpE dL_law_1805 ?_
    refine ro_t (c := w32 0 = 0) rfl ?_
    refine r_if_eq (tgt := 1811) dL_law_1806 (by decide) ?_ ro_none
    refine r_goto (tgt := 2122) dL_law_1811 (by decide) ?_
    exact r_lo [2, 3, 4, 5, 6] (lo2 := loM sb b mo out (4 * j : Nat)) rfl K
  · refine ro_t (c := ¬ w32 kk = 0) (fun z => hz (w32_k0 hk0 z)) ?_
    refine r_if_ne (tgt := 1811) dL_law_1796 (by decide) ?_ ro_none
    refine r_goto (tgt := 2122) dL_law_1811 (by decide) ?_
    exact r_lo [2, 3, 4, 5, 6] (lo2 := loM sb b mo out (4 * j : Nat)) rfl K
set_option maxHeartbeats 8000000 in
set_option maxRecDepth 100000 in
theorem case_linked {l : Launch} {b0 : Nat} {bG : va_G} {cy : Nat → ClassId} {g : State → Heap → Prop} {sb b mo out Ls kc j : Nat} {xs : Nat → Int32} {T : List ExceptionTableEntry} {M : Md} {C : Cd} {sT : Nat → Nat} (hG : GK (b0, bG, cy, fS cy mo, g) l) (hXN : XN (b0, bG, cy, fS cy mo, g)) (hS : STs (b0, bG, cy, fS cy mo, g) sT) (hxs : XScr (b0, bG, cy, fS cy mo, g) sb Ls xs) (hj : 4 * j + 4 ≤ Ls) (hLs : Ls ≤ 2048) (hR : RR b kc M C) (hk : kc < 512) (ho : isO C out 108 ∧ cn C out = 1) (hbo : b + 854 ≤ out) :
    ∃ M' C', RR b (kc + 1) M' C' ∧ RmL b C C' ∧ (isO C' out 108 ∧ cn C' out = 1) ∧ ∀ X : Option (Int × St), RunO l (b0, bG, cy, fS cy mo, g) (kL T) 16 encI emL 2122 (loM sb b mo out (4 * j : Nat)) [] (mk1 M', C') X → RunO l (b0, bG, cy, fS cy mo, g) (kL T) 16 encI emL 1814 (loM sb b mo out (4 * j : Nat)) [] (mk1 M, C) X := by
  have hb := hR.1.1.o
  obtain ⟨M', C', y, kk, hY, hR', hm, ho', eW, h36, hk0, hout⟩ := wrapE (tb := fun e => if e = 2 then some 1 else none) (S := [2]) hR (call_linked hR (i32_of _) (i32_of _)) (EO.use (ex_fX11_linked b ((xs (ix ((4 * j : Nat) + (1 : Int)))).toInt) ((xs (ix ((4 * j : Nat) + (2 : Int)))).toInt) C)) (by decide) (GO.use (gr_fX11_linked b ((xs (ix ((4 * j : Nat) + (1 : Int)))).toInt) ((xs (ix ((4 * j : Nat) + (2 : Int)))).toInt) C)) ho.1 ho.2 hbo
  have q1 : inR ((4 * j : Nat) + (1 : Int)) Ls := inR_s (by omega) (by omega)
  have q2 : inR ((4 * j : Nat) + (2 : Int)) Ls := inR_s (by omega) (by omega)
  have q3 : inR ((4 * j : Nat) + (3 : Int)) Ls := inR_s (by omega) (by omega)
  refine ⟨M', C', hR', hm, ho', fun X K => ?_⟩
  refine r_aload_n (x := b) dL_law_1814 rfl rfl ?_
  refine r_aload_n (x := sb) dL_law_1815 rfl rfl ?_
  refine r_iload (x := (4 * j : Nat)) dL_law_1816 rfl ?_
  refine ro_iconst (v := 1) dL_law_1818 rfl ?_
  refine r_iadd dL_law_1819 ?_
  refine r_xld hxs q1 dL_law_1820 ?_
  refine r_aload_n (x := sb) dL_law_1821 rfl rfl ?_
  refine r_iload (x := (4 * j : Nat)) dL_law_1822 rfl ?_
  refine ro_iconst (v := 2) dL_law_1824 rfl ?_
  refine r_iadd dL_law_1825 ?_
  refine r_xld hxs q2 dL_law_1826 ?_
  refine r_aload_n (x := out) dL_law_1827 rfl rfl ?_
  refine ro_callW (r2 := kk) (σ2 := (mk1 M, C')) (As := [.ref b, wi ((xs (ix ((4 * j : Nat) + (1 : Int)))).toInt), wi ((xs (ix ((4 * j : Nat) + (2 : Int)))).toInt), .ref out]) (rest := []) (by rw [show fL_linked b ((xs (ix ((4 * j : Nat) + (1 : Int)))).toInt) ((xs (ix ((4 * j : Nat) + (2 : Int)))).toInt) out C = some (kk, C') from (if_pos hb).trans eW]; rfl) kv_L_linked (w_ct (c_L_linked hG hXN b ((xs (ix ((4 * j : Nat) + (1 : Int)))).toInt) ((xs (ix ((4 * j : Nat) + (2 : Int)))).toInt) out C)) (by decide) um_law_203 rfl (Nat.le_of_ble_eq_true rfl) dL_law_1828 rfl ?_
  refine r_istore (x := kk) (lo2 := (5, wi kk) :: loM sb b mo out (4 * j : Nat)) dL_law_1831 (show 5 < 7 by decide) rfl ?_
  refine r_aload_n (x := mo) dL_law_1833 rfl rfl ?_
  refine r_aload_n (x := sb) dL_law_1834 rfl rfl ?_
  refine r_iload (x := (4 * j : Nat)) dL_law_1835 rfl ?_
  refine ro_iconst (v := 1) dL_law_1837 rfl ?_
  refine r_iadd dL_law_1838 ?_
  refine r_xld hxs q1 dL_law_1839 ?_
  refine r_aload_n (x := sb) dL_law_1840 rfl rfl ?_
  refine r_iload (x := (4 * j : Nat)) dL_law_1841 rfl ?_
  refine ro_iconst (v := 2) dL_law_1843 rfl ?_
  refine r_iadd dL_law_1844 ?_
  refine r_xld hxs q2 dL_law_1845 ?_
  refine ro_call0 hG (r2 := y) (σ2 := (mk1 M', C')) (v := some (wi y)) (X2 := (fX12_linked ((xs (ix ((4 * j : Nat) + (1 : Int)))).toInt) ((xs (ix ((4 * j : Nat) + (2 : Int)))).toInt) M).map (fun q => (q.1, (mk1 q.2, C')))) (by rw [hY]; rfl) rfl (m_ct (c_X12_linked (Γ := (b0, bG, cy, mCells cy mo (maA mo), g)) (mo := mo) (ma := maA mo) rfl ((xs (ix ((4 * j : Nat) + (1 : Int)))).toInt) ((xs (ix ((4 * j : Nat) + (2 : Int)))).toInt) M)) (inv_V (As := [wi ((xs (ix ((4 * j : Nat) + (1 : Int)))).toInt), wi ((xs (ix ((4 * j : Nat) + (2 : Int)))).toInt)]) (rest := []) kv_X12_linked (by decide) um_law_205 rfl (Nat.le_of_ble_eq_true rfl) dL_law_1846 (fun H s hK hR => m_recL H s hK hR)) ?_
  refine r_istore (x := y) (lo2 := (6, wi y) :: (5, wi kk) :: loM sb b mo out (4 * j : Nat)) dL_law_1849 (show 6 < 7 by decide) rfl ?_
  refine r_aload_n (x := mo) dL_law_1851 rfl rfl ?_
  refine ro_call0 hG (r2 := M'.1 36) (σ2 := (mk1 M', C')) (v := some (wi (M'.1 36))) (X2 := (fX12_thrown M').map (fun q => (q.1, (mk1 q.2, C')))) rfl rfl (m_ct (c_X12_thrown (Γ := (b0, bG, cy, mCells cy mo (maA mo), g)) (mo := mo) (ma := maA mo) rfl M')) (inv_V (As := []) (rest := []) kv_X12_thrown (by decide) um_law_115 rfl (Nat.le_of_ble_eq_true rfl) dL_law_1852 (fun H s hK hR => m_recL H s hK hR)) ?_
  refine r_iload (x := kk) dL_law_1855 rfl ?_
  refine ro_t (c := w32 (M'.1 36) = w32 kk) (by rw [h36]) ?_
  refine r_icmp_eq (tgt := 1862) dL_law_1857 (by decide) ?_ ro_none
  refine r_iload (x := kk) dL_law_1862 rfl ?_
  by_cases hz : kk = 0
  · refine ro_f (c := ¬ w32 kk = 0) (fun z => z (by rw [hz]; rfl)) ?_
    refine r_if_ne (tgt := 1879) dL_law_1864 (by decide) ro_none ?_
    refine r_aload_n (x := out) dL_law_1867 rfl rfl ?_
    refine ro_iconst (v := 0) dL_law_1868 rfl ?_
    refine r_lld ho'.1 (by rw [ho'.2]; decide) dL_law_1869 ?_
    rw [show cE C' out (ix 0) = w32 y from hout hz]
    refine r_iload (x := y) dL_law_1870 rfl ?_
    refine r_i2l dL_law_1872 ?_
    refine r_lcmpE dL_law_1873 ?_
    refine ro_t (c := w32 0 = 0) rfl ?_
    refine r_if_eq (tgt := 1879) dL_law_1874 (by decide) ?_ ro_none
    refine r_goto (tgt := 2122) dL_law_1879 (by decide) ?_
    exact r_lo [2, 3, 4, 5, 6] (lo2 := loM sb b mo out (4 * j : Nat)) rfl K
  · refine ro_t (c := ¬ w32 kk = 0) (fun z => hz (w32_k0 hk0 z)) ?_
    refine r_if_ne (tgt := 1879) dL_law_1864 (by decide) ?_ ro_none
    refine r_goto (tgt := 2122) dL_law_1879 (by decide) ?_
    exact r_lo [2, 3, 4, 5, 6] (lo2 := loM sb b mo out (4 * j : Nat)) rfl K
set_option maxHeartbeats 8000000 in
set_option maxRecDepth 100000 in
theorem case_members {l : Launch} {b0 : Nat} {bG : va_G} {cy : Nat → ClassId} {g : State → Heap → Prop} {sb b mo out Ls kc j : Nat} {xs : Nat → Int32} {T : List ExceptionTableEntry} {M : Md} {C : Cd} {sT : Nat → Nat} (hG : GK (b0, bG, cy, fS cy mo, g) l) (hXN : XN (b0, bG, cy, fS cy mo, g)) (hS : STs (b0, bG, cy, fS cy mo, g) sT) (hxs : XScr (b0, bG, cy, fS cy mo, g) sb Ls xs) (hj : 4 * j + 4 ≤ Ls) (hLs : Ls ≤ 2048) (hR : RR b kc M C) (hk : kc < 512) (ho : isO C out 108 ∧ cn C out = 1) (hbo : b + 854 ≤ out) :
    ∃ M' C', RR b (kc + 1) M' C' ∧ RmL b C C' ∧ (isO C' out 108 ∧ cn C' out = 1) ∧ ∀ X : Option (Int × St), RunO l (b0, bG, cy, fS cy mo, g) (kL T) 16 encI emL 2122 (loM sb b mo out (4 * j : Nat)) [] (mk1 M', C') X → RunO l (b0, bG, cy, fS cy mo, g) (kL T) 16 encI emL 1882 (loM sb b mo out (4 * j : Nat)) [] (mk1 M, C) X := by
  have hb := hR.1.1.o
  obtain ⟨M', C', y, kk, hY, hR', hm, ho', eW, h36, hk0, hout⟩ := wrapE (tb := fun e => if e = 2 then some 1 else none) (S := [2]) hR (call_members hR (i32_of _)) (EO.use (ex_fX11_members b ((xs (ix ((4 * j : Nat) + (1 : Int)))).toInt) C)) (by decide) (GO.use (gr_fX11_members b ((xs (ix ((4 * j : Nat) + (1 : Int)))).toInt) C)) ho.1 ho.2 hbo
  have q1 : inR ((4 * j : Nat) + (1 : Int)) Ls := inR_s (by omega) (by omega)
  have q2 : inR ((4 * j : Nat) + (2 : Int)) Ls := inR_s (by omega) (by omega)
  have q3 : inR ((4 * j : Nat) + (3 : Int)) Ls := inR_s (by omega) (by omega)
  refine ⟨M', C', hR', hm, ho', fun X K => ?_⟩
  refine r_aload_n (x := b) dL_law_1882 rfl rfl ?_
  refine r_aload_n (x := sb) dL_law_1883 rfl rfl ?_
  refine r_iload (x := (4 * j : Nat)) dL_law_1884 rfl ?_
  refine ro_iconst (v := 1) dL_law_1886 rfl ?_
  refine r_iadd dL_law_1887 ?_
  refine r_xld hxs q1 dL_law_1888 ?_
  refine r_aload_n (x := out) dL_law_1889 rfl rfl ?_
  refine ro_callW (r2 := kk) (σ2 := (mk1 M, C')) (As := [.ref b, wi ((xs (ix ((4 * j : Nat) + (1 : Int)))).toInt), .ref out]) (rest := []) (by rw [show fL_members b ((xs (ix ((4 * j : Nat) + (1 : Int)))).toInt) out C = some (kk, C') from (if_pos hb).trans eW]; rfl) kv_L_members (w_ct (c_L_members hG hXN b ((xs (ix ((4 * j : Nat) + (1 : Int)))).toInt) out C)) (by decide) um_law_206 rfl (Nat.le_of_ble_eq_true rfl) dL_law_1890 rfl ?_
  refine r_istore (x := kk) (lo2 := (5, wi kk) :: loM sb b mo out (4 * j : Nat)) dL_law_1893 (show 5 < 7 by decide) rfl ?_
  refine r_aload_n (x := mo) dL_law_1895 rfl rfl ?_
  refine r_aload_n (x := sb) dL_law_1896 rfl rfl ?_
  refine r_iload (x := (4 * j : Nat)) dL_law_1897 rfl ?_
  refine ro_iconst (v := 1) dL_law_1899 rfl ?_
  refine r_iadd dL_law_1900 ?_
  refine r_xld hxs q1 dL_law_1901 ?_
  refine ro_call0 hG (r2 := y) (σ2 := (mk1 M', C')) (v := some (wi y)) (X2 := (fX12_members ((xs (ix ((4 * j : Nat) + (1 : Int)))).toInt) M).map (fun q => (q.1, (mk1 q.2, C')))) (by rw [hY]; rfl) rfl (m_ct (c_X12_members (Γ := (b0, bG, cy, mCells cy mo (maA mo), g)) (mo := mo) (ma := maA mo) rfl ((xs (ix ((4 * j : Nat) + (1 : Int)))).toInt) M)) (inv_V (As := [wi ((xs (ix ((4 * j : Nat) + (1 : Int)))).toInt)]) (rest := []) kv_X12_members (by decide) um_law_208 rfl (Nat.le_of_ble_eq_true rfl) dL_law_1902 (fun H s hK hR => m_recL H s hK hR)) ?_
  refine r_istore (x := y) (lo2 := (6, wi y) :: (5, wi kk) :: loM sb b mo out (4 * j : Nat)) dL_law_1905 (show 6 < 7 by decide) rfl ?_
  refine r_aload_n (x := mo) dL_law_1907 rfl rfl ?_
  refine ro_call0 hG (r2 := M'.1 36) (σ2 := (mk1 M', C')) (v := some (wi (M'.1 36))) (X2 := (fX12_thrown M').map (fun q => (q.1, (mk1 q.2, C')))) rfl rfl (m_ct (c_X12_thrown (Γ := (b0, bG, cy, mCells cy mo (maA mo), g)) (mo := mo) (ma := maA mo) rfl M')) (inv_V (As := []) (rest := []) kv_X12_thrown (by decide) um_law_115 rfl (Nat.le_of_ble_eq_true rfl) dL_law_1908 (fun H s hK hR => m_recL H s hK hR)) ?_
  refine r_iload (x := kk) dL_law_1911 rfl ?_
  refine ro_t (c := w32 (M'.1 36) = w32 kk) (by rw [h36]) ?_
  refine r_icmp_eq (tgt := 1918) dL_law_1913 (by decide) ?_ ro_none
  refine r_iload (x := kk) dL_law_1918 rfl ?_
  by_cases hz : kk = 0
  · refine ro_f (c := ¬ w32 kk = 0) (fun z => z (by rw [hz]; rfl)) ?_
    refine r_if_ne (tgt := 1935) dL_law_1920 (by decide) ro_none ?_
    refine r_aload_n (x := out) dL_law_1923 rfl rfl ?_
    refine ro_iconst (v := 0) dL_law_1924 rfl ?_
    refine r_lld ho'.1 (by rw [ho'.2]; decide) dL_law_1925 ?_
    rw [show cE C' out (ix 0) = w32 y from hout hz]
    refine r_iload (x := y) dL_law_1926 rfl ?_
    refine r_i2l dL_law_1928 ?_
    refine r_lcmpE dL_law_1929 ?_
    refine ro_t (c := w32 0 = 0) rfl ?_
    refine r_if_eq (tgt := 1935) dL_law_1930 (by decide) ?_ ro_none
    refine r_goto (tgt := 2122) dL_law_1935 (by decide) ?_
    exact r_lo [2, 3, 4, 5, 6] (lo2 := loM sb b mo out (4 * j : Nat)) rfl K
  · refine ro_t (c := ¬ w32 kk = 0) (fun z => hz (w32_k0 hk0 z)) ?_
    refine r_if_ne (tgt := 1935) dL_law_1920 (by decide) ?_ ro_none
    refine r_goto (tgt := 2122) dL_law_1935 (by decide) ?_
    exact r_lo [2, 3, 4, 5, 6] (lo2 := loM sb b mo out (4 * j : Nat)) rfl K
set_option maxHeartbeats 8000000 in
set_option maxRecDepth 100000 in
theorem case_odd {l : Launch} {b0 : Nat} {bG : va_G} {cy : Nat → ClassId} {g : State → Heap → Prop} {sb b mo out Ls kc j : Nat} {xs : Nat → Int32} {T : List ExceptionTableEntry} {M : Md} {C : Cd} {sT : Nat → Nat} (hG : GK (b0, bG, cy, fS cy mo, g) l) (hXN : XN (b0, bG, cy, fS cy mo, g)) (hS : STs (b0, bG, cy, fS cy mo, g) sT) (hxs : XScr (b0, bG, cy, fS cy mo, g) sb Ls xs) (hj : 4 * j + 4 ≤ Ls) (hLs : Ls ≤ 2048) (hR : RR b kc M C) (hk : kc < 512) (ho : isO C out 108 ∧ cn C out = 1) (hbo : b + 854 ≤ out) :
    ∃ M' C', RR b (kc + 1) M' C' ∧ RmL b C C' ∧ (isO C' out 108 ∧ cn C' out = 1) ∧ ∀ X : Option (Int × St), RunO l (b0, bG, cy, fS cy mo, g) (kL T) 16 encI emL 2122 (loM sb b mo out (4 * j : Nat)) [] (mk1 M', C') X → RunO l (b0, bG, cy, fS cy mo, g) (kL T) 16 encI emL 1938 (loM sb b mo out (4 * j : Nat)) [] (mk1 M, C) X := by
  have hb := hR.1.1.o
  have q1 : inR ((4 * j : Nat) + (1 : Int)) Ls := inR_s (by omega) (by omega)
  by_cases hw : w32 ((xs (ix ((4 * j : Nat) + (1 : Int)))).toInt) = 0
  · obtain ⟨M', C', y, hY, hR', hm, hX⟩ := call_odd (x := 0) hR (by omega)
    obtain ⟨g1, g2, g3⟩ := GO.use (gr_fX11_odd b 0 C) _ _ hX hR.1.1.W out ho.1.1
    refine ⟨M', C', hR', hm, ⟨⟨g1, g2.trans ho.1.2⟩, g3.trans ho.2⟩, fun X K => ?_⟩
    refine r_aload_n (x := b) dL_law_1938 rfl rfl ?_
    refine r_aload_n (x := sb) dL_law_1939 rfl rfl ?_
    refine r_iload (x := (4 * j : Nat)) dL_law_1940 rfl ?_
    refine ro_iconst (v := 1) dL_law_1942 rfl ?_
    refine r_iadd dL_law_1943 ?_
    refine r_xld hxs q1 dL_law_1944 ?_
    refine ro_t (c := w32 ((xs (ix ((4 * j : Nat) + (1 : Int)))).toInt) = 0) hw ?_
    refine r_if_eq (tgt := 1952) dL_law_1945 (by decide) ?_ ro_none
    refine ro_iconst (v := 0) dL_law_1952 rfl ?_
    refine ro_call0 hG (r2 := y) (σ2 := (mk1 M, C')) (v := some (wi y)) (X2 := (fX11_odd b 0 C).map (fun q => (q.1, (mk1 M, q.2)))) (by rw [hX]; rfl) rfl (c_ct (c_X11_odd hG b 0 C)) (inv_V (As := [wi 0]) (rest := []) kv_X11_odd (by decide) um_law_209 rfl (Nat.le_of_ble_eq_true rfl) dL_law_1953 (fun H s hK hR => c_rec hb hc_X11 (by decide) H s hK hR)) ?_
    refine r_aload_n (x := mo) dL_law_1956 rfl rfl ?_
    refine r_aload_n (x := sb) dL_law_1957 rfl rfl ?_
    refine r_iload (x := (4 * j : Nat)) dL_law_1958 rfl ?_
    refine ro_iconst (v := 1) dL_law_1960 rfl ?_
    refine r_iadd dL_law_1961 ?_
    refine r_xld hxs q1 dL_law_1962 ?_
    refine ro_t (c := w32 ((xs (ix ((4 * j : Nat) + (1 : Int)))).toInt) = 0) hw ?_
    refine r_if_eq (tgt := 1970) dL_law_1963 (by decide) ?_ ro_none
    refine ro_iconst (v := 0) dL_law_1970 rfl ?_
    refine ro_call0 hG (r2 := y) (σ2 := (mk1 M', C')) (v := some (wi y)) (X2 := (fX12_odd 0 M).map (fun q => (q.1, (mk1 q.2, C')))) (by rw [hY]; rfl) rfl (m_ct (c_X12_odd (Γ := (b0, bG, cy, mCells cy mo (maA mo), g)) (mo := mo) (ma := maA mo) rfl 0 M)) (inv_V (As := [wi 0]) (rest := [wi y]) kv_X12_odd (by decide) um_law_213 rfl (Nat.le_of_ble_eq_true rfl) dL_law_1971 (fun H s hK hR => m_recL H s hK hR)) ?_
    refine ro_t (c := w32 y = w32 y) rfl ?_
    exact r_icmp_eq (tgt := 2122) dL_law_1974 (by decide) K ro_none
  · obtain ⟨M', C', y, hY, hR', hm, hX⟩ := call_odd (x := 1) hR (by omega)
    obtain ⟨g1, g2, g3⟩ := GO.use (gr_fX11_odd b 1 C) _ _ hX hR.1.1.W out ho.1.1
    refine ⟨M', C', hR', hm, ⟨⟨g1, g2.trans ho.1.2⟩, g3.trans ho.2⟩, fun X K => ?_⟩
    refine r_aload_n (x := b) dL_law_1938 rfl rfl ?_
    refine r_aload_n (x := sb) dL_law_1939 rfl rfl ?_
    refine r_iload (x := (4 * j : Nat)) dL_law_1940 rfl ?_
    refine ro_iconst (v := 1) dL_law_1942 rfl ?_
    refine r_iadd dL_law_1943 ?_
    refine r_xld hxs q1 dL_law_1944 ?_
    refine ro_f (c := w32 ((xs (ix ((4 * j : Nat) + (1 : Int)))).toInt) = 0) hw ?_
    refine r_if_eq (tgt := 1952) dL_law_1945 (by decide) ro_none ?_
    refine ro_iconst (v := 1) dL_law_1948 rfl ?_
    refine r_goto (tgt := 1953) dL_law_1949 (by decide) ?_
    refine ro_call0 hG (r2 := y) (σ2 := (mk1 M, C')) (v := some (wi y)) (X2 := (fX11_odd b 1 C).map (fun q => (q.1, (mk1 M, q.2)))) (by rw [hX]; rfl) rfl (c_ct (c_X11_odd hG b 1 C)) (inv_V (As := [wi 1]) (rest := []) kv_X11_odd (by decide) um_law_209 rfl (Nat.le_of_ble_eq_true rfl) dL_law_1953 (fun H s hK hR => c_rec hb hc_X11 (by decide) H s hK hR)) ?_
    refine r_aload_n (x := mo) dL_law_1956 rfl rfl ?_
    refine r_aload_n (x := sb) dL_law_1957 rfl rfl ?_
    refine r_iload (x := (4 * j : Nat)) dL_law_1958 rfl ?_
    refine ro_iconst (v := 1) dL_law_1960 rfl ?_
    refine r_iadd dL_law_1961 ?_
    refine r_xld hxs q1 dL_law_1962 ?_
    refine ro_f (c := w32 ((xs (ix ((4 * j : Nat) + (1 : Int)))).toInt) = 0) hw ?_
    refine r_if_eq (tgt := 1970) dL_law_1963 (by decide) ro_none ?_
    refine ro_iconst (v := 1) dL_law_1966 rfl ?_
    refine r_goto (tgt := 1971) dL_law_1967 (by decide) ?_
    refine ro_call0 hG (r2 := y) (σ2 := (mk1 M', C')) (v := some (wi y)) (X2 := (fX12_odd 1 M).map (fun q => (q.1, (mk1 q.2, C')))) (by rw [hY]; rfl) rfl (m_ct (c_X12_odd (Γ := (b0, bG, cy, mCells cy mo (maA mo), g)) (mo := mo) (ma := maA mo) rfl 1 M)) (inv_V (As := [wi 1]) (rest := [wi y]) kv_X12_odd (by decide) um_law_213 rfl (Nat.le_of_ble_eq_true rfl) dL_law_1971 (fun H s hK hR => m_recL H s hK hR)) ?_
    refine ro_t (c := w32 y = w32 y) rfl ?_
    exact r_icmp_eq (tgt := 2122) dL_law_1974 (by decide) K ro_none
set_option maxHeartbeats 8000000 in
set_option maxRecDepth 100000 in
theorem case_inLanguage {l : Launch} {b0 : Nat} {bG : va_G} {cy : Nat → ClassId} {g : State → Heap → Prop} {sb b mo out Ls kc j : Nat} {xs : Nat → Int32} {T : List ExceptionTableEntry} {M : Md} {C : Cd} {sT : Nat → Nat} (hG : GK (b0, bG, cy, fS cy mo, g) l) (hXN : XN (b0, bG, cy, fS cy mo, g)) (hS : STs (b0, bG, cy, fS cy mo, g) sT) (hxs : XScr (b0, bG, cy, fS cy mo, g) sb Ls xs) (hj : 4 * j + 4 ≤ Ls) (hLs : Ls ≤ 2048) (hR : RR b kc M C) (hk : kc < 512) (ho : isO C out 108 ∧ cn C out = 1) (hbo : b + 854 ≤ out) :
    ∃ M' C', RR b (kc + 1) M' C' ∧ RmL b C C' ∧ (isO C' out 108 ∧ cn C' out = 1) ∧ ∀ X : Option (Int × St), RunO l (b0, bG, cy, fS cy mo, g) (kL T) 16 encI emL 2122 (loM sb b mo out (4 * j : Nat)) [] (mk1 M', C') X → RunO l (b0, bG, cy, fS cy mo, g) (kL T) 16 encI emL 1979 (loM sb b mo out (4 * j : Nat)) [] (mk1 M, C) X := by
  have hb := hR.1.1.o
  obtain ⟨M', C', y, kk, hY, hR', hm, ho', eW, h36, hk0, hout⟩ := wrapE (tb := fun e => if e = 2 then some 1 else if e = 0 then some 2 else none) (S := [0, 2]) hR (call_inLanguage hR (i32_of _) (i32_of _)) (EO.use (ex_fX11_inLanguage b ((xs (ix ((4 * j : Nat) + (1 : Int)))).toInt) ((xs (ix ((4 * j : Nat) + (2 : Int)))).toInt) C)) (by decide) (GO.use (gr_fX11_inLanguage b ((xs (ix ((4 * j : Nat) + (1 : Int)))).toInt) ((xs (ix ((4 * j : Nat) + (2 : Int)))).toInt) C)) ho.1 ho.2 hbo
  have q1 : inR ((4 * j : Nat) + (1 : Int)) Ls := inR_s (by omega) (by omega)
  have q2 : inR ((4 * j : Nat) + (2 : Int)) Ls := inR_s (by omega) (by omega)
  have q3 : inR ((4 * j : Nat) + (3 : Int)) Ls := inR_s (by omega) (by omega)
  refine ⟨M', C', hR', hm, ho', fun X K => ?_⟩
  refine r_aload_n (x := b) dL_law_1979 rfl rfl ?_
  refine r_aload_n (x := sb) dL_law_1980 rfl rfl ?_
  refine r_iload (x := (4 * j : Nat)) dL_law_1981 rfl ?_
  refine ro_iconst (v := 1) dL_law_1983 rfl ?_
  refine r_iadd dL_law_1984 ?_
  refine r_xld hxs q1 dL_law_1985 ?_
  refine r_aload_n (x := sb) dL_law_1986 rfl rfl ?_
  refine r_iload (x := (4 * j : Nat)) dL_law_1987 rfl ?_
  refine ro_iconst (v := 2) dL_law_1989 rfl ?_
  refine r_iadd dL_law_1990 ?_
  refine r_xld hxs q2 dL_law_1991 ?_
  refine r_aload_n (x := out) dL_law_1992 rfl rfl ?_
  refine ro_callW (r2 := kk) (σ2 := (mk1 M, C')) (As := [.ref b, wi ((xs (ix ((4 * j : Nat) + (1 : Int)))).toInt), wi ((xs (ix ((4 * j : Nat) + (2 : Int)))).toInt), .ref out]) (rest := []) (by rw [show fL_inLanguage b ((xs (ix ((4 * j : Nat) + (1 : Int)))).toInt) ((xs (ix ((4 * j : Nat) + (2 : Int)))).toInt) out C = some (kk, C') from (if_pos hb).trans eW]; rfl) kv_L_inLanguage (w_ct (c_L_inLanguage hG hXN b ((xs (ix ((4 * j : Nat) + (1 : Int)))).toInt) ((xs (ix ((4 * j : Nat) + (2 : Int)))).toInt) out C)) (by decide) um_law_214 rfl (Nat.le_of_ble_eq_true rfl) dL_law_1993 rfl ?_
  refine r_istore (x := kk) (lo2 := (5, wi kk) :: loM sb b mo out (4 * j : Nat)) dL_law_1996 (show 5 < 7 by decide) rfl ?_
  refine r_aload_n (x := mo) dL_law_1998 rfl rfl ?_
  refine r_aload_n (x := sb) dL_law_1999 rfl rfl ?_
  refine r_iload (x := (4 * j : Nat)) dL_law_2000 rfl ?_
  refine ro_iconst (v := 1) dL_law_2002 rfl ?_
  refine r_iadd dL_law_2003 ?_
  refine r_xld hxs q1 dL_law_2004 ?_
  refine r_aload_n (x := sb) dL_law_2005 rfl rfl ?_
  refine r_iload (x := (4 * j : Nat)) dL_law_2006 rfl ?_
  refine ro_iconst (v := 2) dL_law_2008 rfl ?_
  refine r_iadd dL_law_2009 ?_
  refine r_xld hxs q2 dL_law_2010 ?_
  refine ro_call0 hG (r2 := y) (σ2 := (mk1 M', C')) (v := some (wi y)) (X2 := (fX12_inLanguage ((xs (ix ((4 * j : Nat) + (1 : Int)))).toInt) ((xs (ix ((4 * j : Nat) + (2 : Int)))).toInt) M).map (fun q => (q.1, (mk1 q.2, C')))) (by rw [hY]; rfl) rfl (m_ct (c_X12_inLanguage (Γ := (b0, bG, cy, mCells cy mo (maA mo), g)) (mo := mo) (ma := maA mo) rfl ((xs (ix ((4 * j : Nat) + (1 : Int)))).toInt) ((xs (ix ((4 * j : Nat) + (2 : Int)))).toInt) M)) (inv_V (As := [wi ((xs (ix ((4 * j : Nat) + (1 : Int)))).toInt), wi ((xs (ix ((4 * j : Nat) + (2 : Int)))).toInt)]) (rest := []) kv_X12_inLanguage (by decide) um_law_216 rfl (Nat.le_of_ble_eq_true rfl) dL_law_2011 (fun H s hK hR => m_recL H s hK hR)) ?_
  refine r_istore (x := y) (lo2 := (6, wi y) :: (5, wi kk) :: loM sb b mo out (4 * j : Nat)) dL_law_2014 (show 6 < 7 by decide) rfl ?_
  refine r_aload_n (x := mo) dL_law_2016 rfl rfl ?_
  refine ro_call0 hG (r2 := M'.1 36) (σ2 := (mk1 M', C')) (v := some (wi (M'.1 36))) (X2 := (fX12_thrown M').map (fun q => (q.1, (mk1 q.2, C')))) rfl rfl (m_ct (c_X12_thrown (Γ := (b0, bG, cy, mCells cy mo (maA mo), g)) (mo := mo) (ma := maA mo) rfl M')) (inv_V (As := []) (rest := []) kv_X12_thrown (by decide) um_law_115 rfl (Nat.le_of_ble_eq_true rfl) dL_law_2017 (fun H s hK hR => m_recL H s hK hR)) ?_
  refine r_iload (x := kk) dL_law_2020 rfl ?_
  refine ro_t (c := w32 (M'.1 36) = w32 kk) (by rw [h36]) ?_
  refine r_icmp_eq (tgt := 2027) dL_law_2022 (by decide) ?_ ro_none
  refine r_iload (x := kk) dL_law_2027 rfl ?_
  by_cases hz : kk = 0
  · refine ro_f (c := ¬ w32 kk = 0) (fun z => z (by rw [hz]; rfl)) ?_
    refine r_if_ne (tgt := 2044) dL_law_2029 (by decide) ro_none ?_
    refine r_aload_n (x := out) dL_law_2032 rfl rfl ?_
    refine ro_iconst (v := 0) dL_law_2033 rfl ?_
    refine r_lld ho'.1 (by rw [ho'.2]; decide) dL_law_2034 ?_
    rw [show cE C' out (ix 0) = w32 y from hout hz]
    refine r_iload (x := y) dL_law_2035 rfl ?_
    refine r_i2l dL_law_2037 ?_
    refine r_lcmpE dL_law_2038 ?_
    refine ro_t (c := w32 0 = 0) rfl ?_
    refine r_if_eq (tgt := 2044) dL_law_2039 (by decide) ?_ ro_none
    refine r_goto (tgt := 2122) dL_law_2044 (by decide) ?_
    exact r_lo [2, 3, 4, 5, 6] (lo2 := loM sb b mo out (4 * j : Nat)) rfl K
  · refine ro_t (c := ¬ w32 kk = 0) (fun z => hz (w32_k0 hk0 z)) ?_
    refine r_if_ne (tgt := 2044) dL_law_2029 (by decide) ?_ ro_none
    refine r_goto (tgt := 2122) dL_law_2044 (by decide) ?_
    exact r_lo [2, 3, 4, 5, 6] (lo2 := loM sb b mo out (4 * j : Nat)) rfl K
set_option maxHeartbeats 8000000 in
set_option maxRecDepth 100000 in
theorem case_isOutdated {l : Launch} {b0 : Nat} {bG : va_G} {cy : Nat → ClassId} {g : State → Heap → Prop} {sb b mo out Ls kc j : Nat} {xs : Nat → Int32} {T : List ExceptionTableEntry} {M : Md} {C : Cd} {sT : Nat → Nat} (hG : GK (b0, bG, cy, fS cy mo, g) l) (hXN : XN (b0, bG, cy, fS cy mo, g)) (hS : STs (b0, bG, cy, fS cy mo, g) sT) (hxs : XScr (b0, bG, cy, fS cy mo, g) sb Ls xs) (hj : 4 * j + 4 ≤ Ls) (hLs : Ls ≤ 2048) (hR : RR b kc M C) (hk : kc < 512) (ho : isO C out 108 ∧ cn C out = 1) (hbo : b + 854 ≤ out) :
    ∃ M' C', RR b (kc + 1) M' C' ∧ RmL b C C' ∧ (isO C' out 108 ∧ cn C' out = 1) ∧ ∀ X : Option (Int × St), RunO l (b0, bG, cy, fS cy mo, g) (kL T) 16 encI emL 2122 (loM sb b mo out (4 * j : Nat)) [] (mk1 M', C') X → RunO l (b0, bG, cy, fS cy mo, g) (kL T) 16 encI emL 2047 (loM sb b mo out (4 * j : Nat)) [] (mk1 M, C) X := by
  have hb := hR.1.1.o
  obtain ⟨M', C', y, kk, hY, hR', hm, ho', eW, h36, hk0, hout⟩ := wrapEZ (tb := fun e => if e = 2 then some 1 else if e = 0 then some 2 else none) (S := [0, 2]) hR (call_isOutdated hR (i32_of _) (i32_of _)) (EO.use (ex_fX11_isOutdated b ((xs (ix ((4 * j : Nat) + (1 : Int)))).toInt) ((xs (ix ((4 * j : Nat) + (2 : Int)))).toInt) C)) (by decide) (GO.use (gr_fX11_isOutdated b ((xs (ix ((4 * j : Nat) + (1 : Int)))).toInt) ((xs (ix ((4 * j : Nat) + (2 : Int)))).toInt) C)) ho.1 ho.2 hbo
  have q1 : inR ((4 * j : Nat) + (1 : Int)) Ls := inR_s (by omega) (by omega)
  have q2 : inR ((4 * j : Nat) + (2 : Int)) Ls := inR_s (by omega) (by omega)
  have q3 : inR ((4 * j : Nat) + (3 : Int)) Ls := inR_s (by omega) (by omega)
  refine ⟨M', C', hR', hm, ho', fun X K => ?_⟩
  refine r_aload_n (x := b) dL_law_2047 rfl rfl ?_
  refine r_aload_n (x := sb) dL_law_2048 rfl rfl ?_
  refine r_iload (x := (4 * j : Nat)) dL_law_2049 rfl ?_
  refine ro_iconst (v := 1) dL_law_2051 rfl ?_
  refine r_iadd dL_law_2052 ?_
  refine r_xld hxs q1 dL_law_2053 ?_
  refine r_aload_n (x := sb) dL_law_2054 rfl rfl ?_
  refine r_iload (x := (4 * j : Nat)) dL_law_2055 rfl ?_
  refine ro_iconst (v := 2) dL_law_2057 rfl ?_
  refine r_iadd dL_law_2058 ?_
  refine r_xld hxs q2 dL_law_2059 ?_
  refine r_aload_n (x := out) dL_law_2060 rfl rfl ?_
  refine ro_callW (r2 := kk) (σ2 := (mk1 M, C')) (As := [.ref b, wi ((xs (ix ((4 * j : Nat) + (1 : Int)))).toInt), wi ((xs (ix ((4 * j : Nat) + (2 : Int)))).toInt), .ref out]) (rest := []) (by rw [show fL_isOutdated b ((xs (ix ((4 * j : Nat) + (1 : Int)))).toInt) ((xs (ix ((4 * j : Nat) + (2 : Int)))).toInt) out C = some (kk, C') from (if_pos hb).trans eW]; rfl) kv_L_isOutdated (w_ct (c_L_isOutdated hG hXN b ((xs (ix ((4 * j : Nat) + (1 : Int)))).toInt) ((xs (ix ((4 * j : Nat) + (2 : Int)))).toInt) out C)) (by decide) um_law_217 rfl (Nat.le_of_ble_eq_true rfl) dL_law_2061 rfl ?_
  refine r_istore (x := kk) (lo2 := (5, wi kk) :: loM sb b mo out (4 * j : Nat)) dL_law_2064 (show 5 < 7 by decide) rfl ?_
  refine r_aload_n (x := mo) dL_law_2066 rfl rfl ?_
  refine r_aload_n (x := sb) dL_law_2067 rfl rfl ?_
  refine r_iload (x := (4 * j : Nat)) dL_law_2068 rfl ?_
  refine ro_iconst (v := 1) dL_law_2070 rfl ?_
  refine r_iadd dL_law_2071 ?_
  refine r_xld hxs q1 dL_law_2072 ?_
  refine r_aload_n (x := sb) dL_law_2073 rfl rfl ?_
  refine r_iload (x := (4 * j : Nat)) dL_law_2074 rfl ?_
  refine ro_iconst (v := 2) dL_law_2076 rfl ?_
  refine r_iadd dL_law_2077 ?_
  refine r_xld hxs q2 dL_law_2078 ?_
  refine ro_call0 hG (r2 := y) (σ2 := (mk1 M', C')) (v := some (wi y)) (X2 := (fX12_isOutdated ((xs (ix ((4 * j : Nat) + (1 : Int)))).toInt) ((xs (ix ((4 * j : Nat) + (2 : Int)))).toInt) M).map (fun q => (q.1, (mk1 q.2, C')))) (by rw [hY]; rfl) rfl (m_ct (c_X12_isOutdated (Γ := (b0, bG, cy, mCells cy mo (maA mo), g)) (mo := mo) (ma := maA mo) rfl ((xs (ix ((4 * j : Nat) + (1 : Int)))).toInt) ((xs (ix ((4 * j : Nat) + (2 : Int)))).toInt) M)) (inv_V (As := [wi ((xs (ix ((4 * j : Nat) + (1 : Int)))).toInt), wi ((xs (ix ((4 * j : Nat) + (2 : Int)))).toInt)]) (rest := []) kv_X12_isOutdated (by decide) um_law_219 rfl (Nat.le_of_ble_eq_true rfl) dL_law_2079 (fun H s hK hR => m_recL H s hK hR)) ?_
  refine r_istore (x := y) (lo2 := (6, wi y) :: (5, wi kk) :: loM sb b mo out (4 * j : Nat)) dL_law_2082 (show 6 < 7 by decide) rfl ?_
  refine r_aload_n (x := mo) dL_law_2084 rfl rfl ?_
  refine ro_call0 hG (r2 := M'.1 36) (σ2 := (mk1 M', C')) (v := some (wi (M'.1 36))) (X2 := (fX12_thrown M').map (fun q => (q.1, (mk1 q.2, C')))) rfl rfl (m_ct (c_X12_thrown (Γ := (b0, bG, cy, mCells cy mo (maA mo), g)) (mo := mo) (ma := maA mo) rfl M')) (inv_V (As := []) (rest := []) kv_X12_thrown (by decide) um_law_115 rfl (Nat.le_of_ble_eq_true rfl) dL_law_2085 (fun H s hK hR => m_recL H s hK hR)) ?_
  refine r_iload (x := kk) dL_law_2088 rfl ?_
  refine ro_t (c := w32 (M'.1 36) = w32 kk) (by rw [h36]) ?_
  refine r_icmp_eq (tgt := 2095) dL_law_2090 (by decide) ?_ ro_none
  refine r_iload (x := kk) dL_law_2095 rfl ?_
  by_cases hz : kk = 0
  · refine ro_f (c := ¬ w32 kk = 0) (fun z => z (by rw [hz]; rfl)) ?_
    refine r_if_ne (tgt := 2119) dL_law_2097 (by decide) ro_none ?_
    refine r_aload_n (x := out) dL_law_2100 rfl rfl ?_
    refine ro_iconst (v := 0) dL_law_2101 rfl ?_
    refine r_lld ho'.1 (by rw [ho'.2]; decide) dL_law_2102 ?_
    rw [show cE C' out (ix 0) = (if w32 y = 0 then 0 else 1) from hout hz]
    refine r_iload (x := y) dL_law_2103 rfl ?_
    by_cases hy : w32 y = 0
    · rw [if_pos hy]
      refine ro_t (c := w32 y = 0) hy ?_
      refine r_if_eq (tgt := 2112) dL_law_2105 (by decide) ?_ ro_none
      refine r_lconst (x := 0) dL_law_2112 (by decide) ?_
      refine r_lcmpE dL_law_2113 ?_
      refine ro_t (c := w32 0 = 0) rfl ?_
      refine r_if_eq (tgt := 2119) dL_law_2114 (by decide) ?_ ro_none
      refine r_goto (tgt := 2122) dL_law_2119 (by decide) ?_
      exact r_lo [2, 3, 4, 5, 6] (lo2 := loM sb b mo out (4 * j : Nat)) rfl K
    · rw [if_neg hy]
      refine ro_f (c := w32 y = 0) hy ?_
      refine r_if_eq (tgt := 2112) dL_law_2105 (by decide) ro_none ?_
      refine r_lconst (x := 1) dL_law_2108 (by decide) ?_
      refine r_goto (tgt := 2113) dL_law_2109 (by decide) ?_
      refine r_lcmpE dL_law_2113 ?_
      refine ro_t (c := w32 0 = 0) rfl ?_
      refine r_if_eq (tgt := 2119) dL_law_2114 (by decide) ?_ ro_none
      refine r_goto (tgt := 2122) dL_law_2119 (by decide) ?_
      exact r_lo [2, 3, 4, 5, 6] (lo2 := loM sb b mo out (4 * j : Nat)) rfl K
  · refine ro_t (c := ¬ w32 kk = 0) (fun z => hz (w32_k0 hk0 z)) ?_
    refine r_if_ne (tgt := 2119) dL_law_2097 (by decide) ?_ ro_none
    refine r_goto (tgt := 2122) dL_law_2119 (by decide) ?_
    exact r_lo [2, 3, 4, 5, 6] (lo2 := loM sb b mo out (4 * j : Nat)) rfl K

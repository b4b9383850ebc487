/-! THE LAW'S ENTRY -/
abbrev emL : St → St := fun σ => σ
def C00 (b : Nat) : Cd := (fun _ _ => 0, fun _ _ => none, fun _ _ => 0, fun _ _ => none, fun _ => 0, fun _ => 0, [], b, 0)
theorem C00_W (b : Nat) : Wf (C00 b) := fun a h => by cases h
def M00 : Md := (fun _ => 0, fun _ _ => 0)
theorem un_law_60 : Cond.classLink RL 60 RX11 ∈ uw ∧ Cond.instantiable RX11 10 ∈ uw ∧ Cond.initialized RX11 ∈ uw := ⟨uw_mem 128 (by decide +kernel) rfl, uw_mem 129 (by decide +kernel) rfl, uw_mem 94 (by decide +kernel) rfl⟩
theorem ul_law_179 : Cond.methodLink RL 179 yX11_init ∈ uw := uw_mem 130 (by decide +kernel) rfl
section LROWS
variable {ρ : Type} {l : Launch} {Γ : Cx} {k : Kd} {d : Nat} {enc : ρ → Out} {M0 : Md} {pc : Nat} {lo : List (Nat × Value)} {st rest : List Value} {C : Cd} {X : Option (ρ × St)}
theorem r_lnew {i c N : Nat} {Cn : String} {T : u_T} (hc : vwCl[c]? = some (Cn, T, N)) (hN : nF c = N) (hc2 : c < 100) (hin : ∀ w ∈ u_ws Cn T N, w ∈ uw) (tyT : Nat → FieldType) (htyT : ∀ k, k < N → parseFieldDescriptor (T k).2.2.1 = some (tyT k))
    (hfs : ∀ j, j < N → defaultValue (tyT j) = vp_V ((List.range (nF c)).map (fun k => if isR (100 * c + k) then Value.null else wi 0)) j) (u1 : Cond.classLink k.1.cls i Cn ∈ uw) (u2 : Cond.instantiable Cn N ∈ uw) (u3 : Cond.initialized Cn ∈ uw) (hd : decode k.2.1 pc = .ok (.new i, 3))
    (K : RunO l Γ k d enc emL (pc + 3) lo (.ref (csz C) :: rest) (M0, cNew C c) X) : RunO l Γ k d enc emL pc lo rest (M0, C) X := by
  intro r σ' hX
  obtain ⟨h1, h2, h3⟩ := K r σ' hX
  have h1' : csz C + 1 ≤ csz σ'.2 := h1
  have h2' : csl C + nF c ≤ csl σ'.2 := h2
  refine ⟨by show csz C ≤ csz σ'.2; omega, by show csl C ≤ csl σ'.2; omega, fun p e R s m args below meth c0 hm z0 l0 H locs ls a1 a2 a3 a4 hR hS hl => ?_⟩
  have hK := hm.2.2.2.2.2.2.2.2.1
  have hbase := hm.2.2.2.2.2.2.2.2.2.2.2.2.2.1
  have hts := hm.2.2.2.2.2.1
  have hKn := hK.1 c _ hc
  have hz : H.size = csz C := hR.2.2
  have hz0 : z0 ≤ csz C := by rw [a1, ← hz]; exact hS.1
  have a3' : csz σ'.2 - z0 ≤ R.cells := a3
  have a4' : csl σ'.2 - l0 ≤ R.slots := a4
  have a2' : l0 ≤ csl C := a2
  refine W.newcK (g := F0 m pc ls rest) hm.1 hm.2.1 hm.2.2.2.2.1 (hts _ u1) (hts _ u2) (hts _ u3) rfl hd (by show csz C - z0 + 1 ≤ R.cells; omega) (by show csl C - l0 + N ≤ R.slots; omega) hKn.2.1 hz fun H1 kC hkC e1 z1 o1 => ?_
  obtain ⟨g1, g2⟩ := c_grow (M0 := M0) (C := C) (C' := cNew C c) (e := .inr (c, (List.range (nF c)).map (fun k => if isR (100 * c + k) then Value.null else wi 0))) hR hS hbase rfl rfl (cfE_new hc2) (by rw [z1, hz]) (fun q hq => o1 q (by rw [← hz]; exact hq)) ⟨_, hc, (u_born tyT hts hin hKn hkC e1 htyT).to hfs⟩
  have h9 := h3 p e R s m args below meth c0 hm z0 l0 H1 locs ls a1 (by show l0 ≤ csl C + nF c; omega) a3 a4 g1 g2 hl
  have q1 : csz (emL (M0, cNew C c)).2 - z0 = csz C - z0 + 1 := by show csz C + 1 - z0 = _; omega
  have q2 : csl (emL (M0, cNew C c)).2 - l0 = csl C - l0 + N := by show csl C + nF c - l0 = _; omega
  rw [q1, q2] at h9
  exact h9
/-- a call that doesn't throw, of which the answer is known -/
theorem ro_call0 (hG : GK Γ l) {ρ2 : Type} {enc2 : ρ2 → Out} {σ1 σ2 : St} {r2 : ρ2} {v : Option Value} {k2 : Kd} {d2 : Nat} {av : List Value} {X2 : Option (ρ2 × St)} (hX2 : X2 = some (r2, σ2)) (hv : enc2 r2 = .inl v)
    (hct : Ct l Γ k2 d2 enc2 emL av σ1 X2) (hin : Inv l Γ k d k2 d2 av emL σ1 pc st rest) (K : RunO l Γ k d enc emL (pc + 3) lo (v.toList ++ rest) σ2 X) : RunO l Γ k d enc emL pc lo st σ1 X := by
  classical
  subst hX2
  have h := ro_callH (lo := lo) (enc := enc) (f := fun (r3 : ρ2) (σ : St) => if r3 = r2 ∧ σ = σ2 then X else none) hG hct hin (fun r3 σ3 => by
    by_cases hh : r3 = r2 ∧ σ3 = σ2
    · obtain ⟨e1, e2⟩ := hh
      subst e1; subst e2
      rw [if_pos ⟨rfl, rfl⟩, hv]
      exact K
    · rw [if_neg hh]
      cases hE : enc2 r3 with
      | inl v' => exact ro_none
      | inr E => exact Or.inl rfl)
  have e : ((some (r2, σ2) : Option (ρ2 × St)).bind fun q => if q.1 = r2 ∧ q.2 = σ2 then X else none) = X := if_pos ⟨rfl, rfl⟩
  rw [e] at h
  exact h
theorem c_ct {av : List Value} {X : Option (ρ × Cd)} (h : Ct l Γ k d enc (emC M0) av C X) : Ct l Γ k d enc emL av (M0, C) (X.map (fun q => (q.1, (M0, q.2)))) := ct_map (em := emL) (J := fun C => (M0, C)) h
end LROWS
/-- the law's rows, k of them made -/
def Ar (b k : Nat) : Md := (fun j => if j < k then ((b + 854 + j : Nat) : Int) else 0, fun _ _ => 0)
theorem Ar_0 {b : Nat} {C : Cd} (hz : csz C = b + 854) : ∀ j, (Ar b 1).1 j = if j = 0 then (csz C : Int) else M00.1 j := fun j => by
  show (if j < 1 then ((b + 854 + j : Nat) : Int) else 0) = if j = 0 then (csz C : Int) else 0
  by_cases c : j = 0
  · rw [if_pos (by omega), if_pos c, hz, c]
  · rw [if_neg (by omega), if_neg c]
theorem Ar_s {b k : Nat} {C : Cd} (hz : csz C = b + 854 + k) : ∀ j, (Ar b (k + 1)).1 j = if j = k then (csz C : Int) else (Ar b k).1 j := fun j => by
  show (if j < k + 1 then ((b + 854 + j : Nat) : Int) else 0) = if j = k then (csz C : Int) else if j < k then ((b + 854 + j : Nat) : Int) else 0
  by_cases c : j = k
  · rw [if_pos (by omega), if_pos c, hz, c]
  · rw [if_neg c]
    by_cases d : j < k
    · rw [if_pos (by omega), if_pos d]
    · rw [if_neg (by omega), if_neg d]
theorem Ar_2 {b k kk : Nat} : ∀ j, (Ar b (k + 1)).2 j = if j = kk then (fun _ => 0) else (Ar b k).2 j := fun j => by
  show (fun _ => 0) = if j = kk then (fun _ => 0) else (fun _ => 0)
  split <;> rfl
theorem Ar_20 {b : Nat} : ∀ j, (Ar b 1).2 j = if j = 0 then (fun _ => 0) else M00.2 j := fun j => by
  show (fun _ => 0) = if j = 0 then (fun _ => 0) else (fun _ => 0)
  split <;> rfl
/-- the class's side of it: the first k of the rows -/
def Kr (C : Cd) : Nat → Cd
  | 0 => C
  | k + 1 => cBumpA (Kr C k) (wLen k)
theorem Kr_sz (C : Cd) : ∀ k, csz (Kr C k) = csz C + k
  | 0 => rfl
  | k + 1 => by show csz (Kr C k) + 1 = _; rw [Kr_sz C k]; omega
theorem Kr_sl (C : Cd) : csl (Kr C 11) = csl C + 236 := by
  show csl C + 4 + 8 + 64 + 32 + 8 + 8 + 56 + 8 + 8 + 32 + 8 = csl C + 236
  omega
section BEGIN2
variable {l : Launch} {b0 : Nat} {bG : va_G} {cy : Nat → ClassId} {g : State → Heap → Prop} {sb b Ls : Nat} {xs : Nat → Int32} {T : List ExceptionTableEntry} {sT : Nat → Nat}
theorem RR.kr {kc : Nat} {G : Md} {C : Cd} (h : RR b kc G C) : ∀ k, RR b kc G (Kr C k)
  | 0 => h
  | k + 1 => (RR.kr h k).bumpA _
theorem em3_ar (C : Cd) : (Ar b 11, C) = em3 (fun k => b + 854 + k) ((fun _ _ => 0), C, fun _ => 0) := by
  refine Prod.ext (Prod.ext (funext fun j => ?_) rfl) rfl
  show (if j < 11 then ((b + 854 + j : Nat) : Int) else 0) = ((if j ≤ 10 then b + 854 + j else 0 : Nat) : Int)
  by_cases c : j < 11
  · rw [if_pos c, if_pos (by omega)]
  · rw [if_neg c, if_neg (by omega)]
    rfl
set_option maxHeartbeats 4000000 in
set_option maxRecDepth 100000 in
theorem law_rows (h : wOn (b0, bG, cy, fA cy, g)) {C1 : Cd} (s1 : csz C1 = b + 854) {X : Option (Int × St)} (K : RunO l (b0, bG, cy, fA cy, g) (kL T) 16 encI emL 71 [(0, .ref sb), (1, .ref b), (2, .ref (b + 854)), (3, .ref (b + 855)), (4, .ref (b + 856)), (5, .ref (b + 857)), (6, .ref (b + 858)), (7, .ref (b + 859)), (8, .ref (b + 860)), (9, .ref (b + 861)), (10, .ref (b + 862)), (11, .ref (b + 863)), (12, .ref (b + 864))] [] (Ar b 11, Kr C1 11) X) : RunO l (b0, bG, cy, fA cy, g) (kL T) 16 encI emL 8 [(1, .ref b), (0, .ref sb)] [] (M00, C1) X := by
  have sz : ∀ k, csz (Kr C1 k) = b + 854 + k := fun k => by rw [Kr_sz, s1]
  refine ro_iconst (v := 4) dL_law_8 rfl ?_
  refine g_newI (kk := 0) (n := 4) (A := M00) (A' := Ar b 1) (C := Kr C1 0) (σ' := (Ar b 1, Kr C1 1)) rfl rfl h (by decide) rfl (Ar_0 (sz 0)) Ar_20 (by decide) rfl ua_I dL_law_9 ?_
  rw [sz 0]
  refine r_astore_n (lo2 := [(2, .ref (b + 854)), (1, .ref b), (0, .ref sb)]) dL_law_11 rfl (show 2 < 35 by decide) rfl ?_
  refine r_bipush (v := 8) dL_law_12 rfl ?_
  refine g_newI (kk := 1) (n := 8) (A := Ar b 1) (A' := Ar b 2) (C := Kr C1 1) (σ' := (Ar b 2, Kr C1 2)) rfl rfl h (by decide) rfl (Ar_s (sz 1)) Ar_2 (by decide) rfl ua_I dL_law_14 ?_
  rw [sz 1]
  refine r_astore_n (lo2 := [(3, .ref (b + 855)), (2, .ref (b + 854)), (1, .ref b), (0, .ref sb)]) dL_law_16 rfl (show 3 < 35 by decide) rfl ?_
  refine r_bipush (v := 64) dL_law_17 rfl ?_
  refine g_newI (kk := 2) (n := 64) (A := Ar b 2) (A' := Ar b 3) (C := Kr C1 2) (σ' := (Ar b 3, Kr C1 3)) rfl rfl h (by decide) rfl (Ar_s (sz 2)) Ar_2 (by decide) rfl ua_I dL_law_19 ?_
  rw [sz 2]
  refine r_astore (lo2 := [(4, .ref (b + 856)), (3, .ref (b + 855)), (2, .ref (b + 854)), (1, .ref b), (0, .ref sb)]) dL_law_21 (show 4 < 35 by decide) rfl ?_
  refine r_bipush (v := 32) dL_law_23 rfl ?_
  refine g_newJ (kk := 3) (n := 32) (A := Ar b 3) (A' := Ar b 4) (C := Kr C1 3) (σ' := (Ar b 4, Kr C1 4)) rfl rfl h (by decide) rfl (Ar_s (sz 3)) Ar_2 (by decide) rfl ua_J dL_law_25 ?_
  rw [sz 3]
  refine r_astore (lo2 := [(5, .ref (b + 857)), (4, .ref (b + 856)), (3, .ref (b + 855)), (2, .ref (b + 854)), (1, .ref b), (0, .ref sb)]) dL_law_27 (show 5 < 35 by decide) rfl ?_
  refine r_bipush (v := 8) dL_law_29 rfl ?_
  refine g_newI (kk := 4) (n := 8) (A := Ar b 4) (A' := Ar b 5) (C := Kr C1 4) (σ' := (Ar b 5, Kr C1 5)) rfl rfl h (by decide) rfl (Ar_s (sz 4)) Ar_2 (by decide) rfl ua_I dL_law_31 ?_
  rw [sz 4]
  refine r_astore (lo2 := [(6, .ref (b + 858)), (5, .ref (b + 857)), (4, .ref (b + 856)), (3, .ref (b + 855)), (2, .ref (b + 854)), (1, .ref b), (0, .ref sb)]) dL_law_33 (show 6 < 35 by decide) rfl ?_
  refine r_bipush (v := 8) dL_law_35 rfl ?_
  refine g_newI (kk := 5) (n := 8) (A := Ar b 5) (A' := Ar b 6) (C := Kr C1 5) (σ' := (Ar b 6, Kr C1 6)) rfl rfl h (by decide) rfl (Ar_s (sz 5)) Ar_2 (by decide) rfl ua_I dL_law_37 ?_
  rw [sz 5]
  refine r_astore (lo2 := [(7, .ref (b + 859)), (6, .ref (b + 858)), (5, .ref (b + 857)), (4, .ref (b + 856)), (3, .ref (b + 855)), (2, .ref (b + 854)), (1, .ref b), (0, .ref sb)]) dL_law_39 (show 7 < 35 by decide) rfl ?_
  refine r_bipush (v := 56) dL_law_41 rfl ?_
  refine g_newI (kk := 6) (n := 56) (A := Ar b 6) (A' := Ar b 7) (C := Kr C1 6) (σ' := (Ar b 7, Kr C1 7)) rfl rfl h (by decide) rfl (Ar_s (sz 6)) Ar_2 (by decide) rfl ua_I dL_law_43 ?_
  rw [sz 6]
  refine r_astore (lo2 := [(8, .ref (b + 860)), (7, .ref (b + 859)), (6, .ref (b + 858)), (5, .ref (b + 857)), (4, .ref (b + 856)), (3, .ref (b + 855)), (2, .ref (b + 854)), (1, .ref b), (0, .ref sb)]) dL_law_45 (show 8 < 35 by decide) rfl ?_
  refine r_bipush (v := 8) dL_law_47 rfl ?_
  refine g_newJ (kk := 7) (n := 8) (A := Ar b 7) (A' := Ar b 8) (C := Kr C1 7) (σ' := (Ar b 8, Kr C1 8)) rfl rfl h (by decide) rfl (Ar_s (sz 7)) Ar_2 (by decide) rfl ua_J dL_law_49 ?_
  rw [sz 7]
  refine r_astore (lo2 := [(9, .ref (b + 861)), (8, .ref (b + 860)), (7, .ref (b + 859)), (6, .ref (b + 858)), (5, .ref (b + 857)), (4, .ref (b + 856)), (3, .ref (b + 855)), (2, .ref (b + 854)), (1, .ref b), (0, .ref sb)]) dL_law_51 (show 9 < 35 by decide) rfl ?_
  refine r_bipush (v := 8) dL_law_53 rfl ?_
  refine g_newI (kk := 8) (n := 8) (A := Ar b 8) (A' := Ar b 9) (C := Kr C1 8) (σ' := (Ar b 9, Kr C1 9)) rfl rfl h (by decide) rfl (Ar_s (sz 8)) Ar_2 (by decide) rfl ua_I dL_law_55 ?_
  rw [sz 8]
  refine r_astore (lo2 := [(10, .ref (b + 862)), (9, .ref (b + 861)), (8, .ref (b + 860)), (7, .ref (b + 859)), (6, .ref (b + 858)), (5, .ref (b + 857)), (4, .ref (b + 856)), (3, .ref (b + 855)), (2, .ref (b + 854)), (1, .ref b), (0, .ref sb)]) dL_law_57 (show 10 < 35 by decide) rfl ?_
  refine r_bipush (v := 32) dL_law_59 rfl ?_
  refine g_newI (kk := 9) (n := 32) (A := Ar b 9) (A' := Ar b 10) (C := Kr C1 9) (σ' := (Ar b 10, Kr C1 10)) rfl rfl h (by decide) rfl (Ar_s (sz 9)) Ar_2 (by decide) rfl ua_I dL_law_61 ?_
  rw [sz 9]
  refine r_astore (lo2 := [(11, .ref (b + 863)), (10, .ref (b + 862)), (9, .ref (b + 861)), (8, .ref (b + 860)), (7, .ref (b + 859)), (6, .ref (b + 858)), (5, .ref (b + 857)), (4, .ref (b + 856)), (3, .ref (b + 855)), (2, .ref (b + 854)), (1, .ref b), (0, .ref sb)]) dL_law_63 (show 11 < 35 by decide) rfl ?_
  refine r_bipush (v := 8) dL_law_65 rfl ?_
  refine g_newI (kk := 10) (n := 8) (A := Ar b 10) (A' := Ar b 11) (C := Kr C1 10) (σ' := (Ar b 11, Kr C1 11)) rfl rfl h (by decide) rfl (Ar_s (sz 10)) Ar_2 (by decide) rfl ua_I dL_law_67 ?_
  rw [sz 10]
  refine r_astore (lo2 := [(12, .ref (b + 864)), (11, .ref (b + 863)), (10, .ref (b + 862)), (9, .ref (b + 861)), (8, .ref (b + 860)), (7, .ref (b + 859)), (6, .ref (b + 858)), (5, .ref (b + 857)), (4, .ref (b + 856)), (3, .ref (b + 855)), (2, .ref (b + 854)), (1, .ref b), (0, .ref sb)]) dL_law_69 (show 12 < 35 by decide) rfl ?_
  exact r_lo [12, 11, 10, 9, 8, 7, 6, 5, 4, 3, 2, 1, 0] (lo2 := [(0, .ref sb), (1, .ref b), (2, .ref (b + 854)), (3, .ref (b + 855)), (4, .ref (b + 856)), (5, .ref (b + 857)), (6, .ref (b + 858)), (7, .ref (b + 859)), (8, .ref (b + 860)), (9, .ref (b + 861)), (10, .ref (b + 862)), (11, .ref (b + 863)), (12, .ref (b + 864))]) rfl K
set_option maxHeartbeats 4000000 in
set_option maxRecDepth 100000 in
theorem law_run (hG : GK (b0, bG, cy, fA cy, g) l) (hXN : XN (b0, bG, cy, fA cy, g)) (hS : STs (b0, bG, cy, fA cy, g) sT) (hxs : XScr (b0, bG, cy, fA cy, g) sb Ls xs) (hLs : Ls ≤ 260) (hb : 0 < b0) (htb : T = []) :
    ∃ σ' : St, RunO l (b0, bG, cy, fA cy, g) (kL T) 16 encI emL 0 [(0, .ref sb)] [] (M00, C00 b) (some (1, σ')) ∧ csz σ'.2 ≤ b + 600130 ∧ csl σ'.2 ≤ 7301080 := by
  have hw : wOn (b0, bG, cy, fA cy, g) := ⟨rfl, hb⟩
  have W0 := Wf_N (C00_W b) 14
  obtain ⟨C1, e1, f1, s1, l1, o1, x1, r1, ⟨t1, t2, t3⟩, i1⟩ := X11_init_ (b := b) W0 rfl (isO_N1 (C00 b) 14)
  have la : csl (cNew (C00 b) 14) ≤ 40 := by show 0 + _ ≤ _; decide
  have hR := RR_start Gz_ok f1.wf (by omega) o1 x1 r1 t1 t2 t3 i1
  have hR2 := hR.kr 11
  obtain ⟨E', C', q', w1, w2⟩ := law_1 (xs := xs) (q := fun _ => 0) (show Ls < 2147483648 by omega) hR2 (LW_start Gz_ok) (by decide)
  have run := b_L_law (ma := fun k => b + 854 + k) hw (fun k hk => by omega) hG hS hXN htb xs Ls b hxs (fun _ _ => 0) (Kr C1 11) (fun _ => 0)
  rw [w1] at run
  have run2 := ro_J (em := emL) (J := em3 (fun k => b + 854 + k)) run
  rw [← em3_ar] at run2
  refine ⟨em3 (fun k => b + 854 + k) (E', C', q'), ?_, ?_, ?_⟩
  · refine r_lnew (M0 := M00) (C := C00 b) hc_X11 rfl (by decide) inU_X11 tyX11 tyX11_ok hfs_X11 un_law_60.1 un_law_60.2.1 un_law_60.2.2 dL_law_0 ?_
    refine r_dup dL_law_3 rfl ?_
    refine ro_call0 hG (r2 := ()) (σ2 := (M00, C1)) (v := none) (X2 := (fX11_init b (cNew (C00 b) 14)).map (fun q => (q.1, (M00, q.2)))) (by rw [e1]; rfl) rfl (c_ct (c_X11_init hG b _)) (inv_I (As := []) (rest := [.ref b]) kv_X11_init (by decide) ul_law_179 rfl (Nat.le_of_ble_eq_true rfl) dL_law_4) ?_
    refine r_astore_n (x := b) (lo2 := [(1, .ref b), (0, .ref sb)]) dL_law_7 rfl (show 1 < 35 by decide) rfl ?_
    exact law_rows hw s1 run2
  · have n1 : nRow b C' ≤ 1230 := cnt_le _ _
    have n2 := Kr_sz C1 11
    obtain ⟨y1, y2, y3, y4⟩ := w2
    show csz C' ≤ b + 600130
    omega
  · have n1 : nRow b C' ≤ 1230 := cnt_le _ _
    have n2 := Kr_sl C1
    obtain ⟨y1, y2, y3, y4⟩ := w2
    show csl C' ≤ 7301080
    omega
end BEGIN2

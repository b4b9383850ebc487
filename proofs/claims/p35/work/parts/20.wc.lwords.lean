/-! the law's words -/
/-- a long method's code among the words: its bytes are held against each other in a row -/
theorem uw_code (k : Nat) {y : MethodName} {b : ByteArray} {m : Nat} {r : Option FieldType} (h : (match lw_tbl[k]? with | some (.code y' b' m' r') => decide (y' = y) && (decide (b'.data.toList = b.data.toList) && (decide (m' = m) && decide (r' = r))) | _ => false) = true) : Cond.code y b m r ∈ uw := by
  cases hk : lw_tbl[k]? with
  | none => rw [hk] at h; cases h
  | some w =>
    rw [hk] at h
    cases w with
    | code y' b' m' r' =>
      simp only [Bool.and_eq_true, decide_eq_true_eq] at h
      obtain ⟨h1, h2, h3, h4⟩ := h
      have e : b' = b := by
        cases b'; cases b
        congr 1
        exact Array.toList_inj.mp h2
      subst h1; subst e; subst h3; subst h4
      exact uw_mem k hk rfl
    | _ => cases h
/-- the law -/
def kL (T : List ExceptionTableEntry) : Kd := (yL_law, cL_law, 35, some .boolean, T)
/-- the script -/
def XScr (Γ : Cx) (b L : Nat) (xs : Nat → Int32) : Prop := ∀ (s : State) (H : Heap), Γ.2.2.2.2 s H → va_T .int b L (fun j => .int (xs j)) (inA Γ) s H
section XS
variable {ρ S : Type} {l : Launch} {Γ : Cx} {k : Kd} {d : Nat} {enc : ρ → Out} {em : S → St} {pc : Nat} {lo : List (Nat × Value)} {rest : List Value} {σ : S} {X : Option (ρ × S)}
theorem r_xlen {b L : Nat} {xs : Nat → Int32} (hS : XScr Γ b L xs) (hd : decode k.2.1 pc = .ok (.arraylength, 1)) (K : RunO l Γ k d enc em (pc + 1) lo (wi (L : Int) :: rest) σ X) : RunO l Γ k d enc em pc lo (.ref b :: rest) σ X := by
  intro r σ' hX
  obtain ⟨h1, h2, h3⟩ := K r σ' hX
  refine ⟨h1, h2, fun p e R s m args below meth c0 hm z0 l0 H locs ls a1 a2 a3 a4 hR hS1 hl => ?_⟩
  refine va_tlen hm.1 hm.2.1 (hS s s.heap hm.2.2.2.2.2.2.2.2.2.2.2.2.2.2) hS1 (v := Int32.ofInt (L : Int)) (Int32.ofInt_eq_ofNat).symm hd ?_
  exact h3 p e R s m args below meth c0 hm z0 l0 H locs ls a1 a2 a3 a4 hR hS1 hl
theorem r_xld {b L : Nat} {xs : Nat → Int32} {i : Int} (hS : XScr Γ b L xs) (hi : inR i L) (hd : decode k.2.1 pc = .ok (.iaload, 1)) (K : RunO l Γ k d enc em (pc + 1) lo (wi (xs (ix i)).toInt :: rest) σ X) : RunO l Γ k d enc em pc lo (wi i :: .ref b :: rest) σ X := by
  obtain ⟨e1, e2⟩ := ix_in hi
  intro r σ' hX
  obtain ⟨h1, h2, h3⟩ := K r σ' hX
  refine ⟨h1, h2, fun p e R s m args below meth c0 hm z0 l0 H locs ls a1 a2 a3 a4 hR hS1 hl => ?_⟩
  refine va_ti hm.1 hm.2.1 (hS s s.heap hm.2.2.2.2.2.2.2.2.2.2.2.2.2.2) hS1 e1 (v := wi (xs (ix i)).toInt) (by rw [e2]; show Value.int _ = Value.int _; rw [Int32.ofInt_toInt]) hd ?_
  exact h3 p e R s m args below meth c0 hm z0 l0 H locs ls a1 a2 a3 a4 hR hS1 hl
end XS
theorem uc_L_184 : Cond.constant RL 184 (Int32.ofInt 2147483647) ∈ uw := uw_mem 1552 (by decide +kernel) rfl
theorem uc_L_185 : Cond.constant RL 185 (Int32.ofInt 42019) ∈ uw := uw_mem 1553 (by decide +kernel) rfl
theorem uc_L_13 : Cond.constantLong RL 13 (Int64.ofInt 1023) ∈ uw := uw_mem 750 (by decide +kernel) rfl
theorem uc_L_130 : Cond.constantLong RL 130 (Int64.ofInt 1024) ∈ uw := uw_mem 1473 (by decide +kernel) rfl
theorem uc_L_23 : Cond.constantLong RL 23 (Int64.ofInt 1000003) ∈ uw := uw_mem 757 (by decide +kernel) rfl
theorem uc_L_25 : Cond.constantLong RL 25 (Int64.ofInt 17) ∈ uw := uw_mem 758 (by decide +kernel) rfl
theorem um_L_100 : Cond.methodLink RL 100 yX11_versionAt ∈ uw := uw_mem 1423 (by decide +kernel) rfl
theorem um_L_109 : Cond.methodLink RL 109 yX11_wipe ∈ uw := uw_mem 1430 (by decide +kernel) rfl
theorem um_L_113 : Cond.methodLink RL 113 yL_code ∈ uw := uw_mem 1434 (by decide +kernel) rfl
theorem um_L_116 : Cond.methodLink RL 116 yX11_token ∈ uw := uw_mem 1437 (by decide +kernel) rfl
theorem um_L_119 : Cond.methodLink RL 119 yL_sections ∈ uw := uw_mem 1452 (by decide +kernel) rfl
theorem um_L_122 : Cond.methodLink RL 122 yL_section ∈ uw := uw_mem 1458 (by decide +kernel) rfl
theorem um_L_126 : Cond.methodLink RL 126 yL_behind ∈ uw := uw_mem 1461 (by decide +kernel) rfl
theorem um_L_132 : Cond.methodLink RL 132 yL_does ∈ uw := uw_mem 780 (by decide +kernel) rfl
theorem um_L_136 : Cond.methodLink RL 136 yX11_clock ∈ uw := uw_mem 1480 (by decide +kernel) rfl
theorem um_L_139 : Cond.methodLink RL 139 yL_versionOf ∈ uw := uw_mem 1474 (by decide +kernel) rfl
theorem um_L_143 : Cond.methodLink RL 143 yX11_versions ∈ uw := uw_mem 1484 (by decide +kernel) rfl
theorem um_L_146 : Cond.methodLink RL 146 yX11_leads ∈ uw := uw_mem 1489 (by decide +kernel) rfl
theorem um_L_149 : Cond.methodLink RL 149 yX11_linked ∈ uw := uw_mem 1494 (by decide +kernel) rfl
theorem um_L_15 : Cond.methodLink RL 15 yL_present ∈ uw := uw_mem 735 (by decide +kernel) rfl
theorem um_L_152 : Cond.methodLink RL 152 yX11_isStale ∈ uw := uw_mem 1503 (by decide +kernel) rfl
theorem um_L_155 : Cond.methodLink RL 155 yL_digest ∈ uw := uw_mem 1507 (by decide +kernel) rfl
theorem um_L_159 : Cond.methodLink RL 159 yL_isAnew ∈ uw := uw_mem 1510 (by decide +kernel) rfl
theorem um_L_163 : Cond.methodLink RL 163 yX11_inLanguage ∈ uw := uw_mem 1513 (by decide +kernel) rfl
theorem um_L_166 : Cond.methodLink RL 166 yX11_isOutdated ∈ uw := uw_mem 1522 (by decide +kernel) rfl
theorem um_L_170 : Cond.methodLink RL 170 yX11_members ∈ uw := uw_mem 1526 (by decide +kernel) rfl
theorem um_L_172 : Cond.methodLink RL 172 yX11_queued ∈ uw := uw_mem 1532 (by decide +kernel) rfl
theorem um_L_175 : Cond.methodLink RL 175 yX11_odd ∈ uw := uw_mem 1536 (by decide +kernel) rfl
theorem um_L_180 : Cond.methodLink RL 180 yL_isWiki ∈ uw := uw_mem 1477 (by decide +kernel) rfl
theorem um_L_186 : Cond.methodLink RL 186 yL_drawn ∈ uw := uw_mem 1470 (by decide +kernel) rfl
theorem um_L_19 : Cond.methodLink RL 19 yL_macro ∈ uw := uw_mem 747 (by decide +kernel) rfl
theorem um_L_190 : Cond.methodLink RL 190 yL_drafts ∈ uw := uw_mem 1427 (by decide +kernel) rfl
theorem um_L_194 : Cond.methodLink RL 194 yL_adds ∈ uw := uw_mem 777 (by decide +kernel) rfl
theorem um_L_198 : Cond.methodLink RL 198 yL_with ∈ uw := uw_mem 1455 (by decide +kernel) rfl
theorem um_L_202 : Cond.methodLink RL 202 yL_merged ∈ uw := uw_mem 1464 (by decide +kernel) rfl
theorem um_L_206 : Cond.methodLink RL 206 yL_isText ∈ uw := uw_mem 1449 (by decide +kernel) rfl
theorem um_L_210 : Cond.methodLink RL 210 yL_undone ∈ uw := uw_mem 1467 (by decide +kernel) rfl
theorem um_L_213 : Cond.methodLink RL 213 yL_isMoved ∈ uw := uw_mem 1549 (by decide +kernel) rfl
theorem um_L_217 : Cond.methodLink RL 217 yL_next ∈ uw := uw_mem 771 (by decide +kernel) rfl
theorem um_L_221 : Cond.methodLink RL 221 yL_rendered ∈ uw := uw_mem 741 (by decide +kernel) rfl
theorem um_L_225 : Cond.methodLink RL 225 yX11_work ∈ uw := uw_mem 512 (by decide +kernel) rfl
theorem um_L_228 : Cond.methodLink RL 228 yX11_rank ∈ uw := uw_mem 420 (by decide +kernel) rfl
theorem um_L_231 : Cond.methodLink RL 231 yL_settles ∈ uw := uw_mem 774 (by decide +kernel) rfl
theorem um_L_27 : Cond.methodLink RL 27 yL_comes ∈ uw := uw_mem 754 (by decide +kernel) rfl
theorem um_L_31 : Cond.methodLink RL 31 yL_members ∈ uw := uw_mem 759 (by decide +kernel) rfl
theorem um_L_35 : Cond.methodLink RL 35 yL_many ∈ uw := uw_mem 762 (by decide +kernel) rfl
theorem um_L_39 : Cond.methodLink RL 39 yL_gives ∈ uw := uw_mem 751 (by decide +kernel) rfl
theorem um_L_43 : Cond.methodLink RL 43 yL_way ∈ uw := uw_mem 765 (by decide +kernel) rfl
theorem um_L_47 : Cond.methodLink RL 47 yL_renders ∈ uw := uw_mem 744 (by decide +kernel) rfl
theorem um_L_51 : Cond.methodLink RL 51 yL_sets ∈ uw := uw_mem 738 (by decide +kernel) rfl
theorem um_L_55 : Cond.methodLink RL 55 yL_isStale ∈ uw := uw_mem 768 (by decide +kernel) rfl
theorem um_L_59 : Cond.methodLink RL 59 yX11_create ∈ uw := uw_mem 786 (by decide +kernel) rfl
theorem um_L_64 : Cond.methodLink RL 64 yX11_edit ∈ uw := uw_mem 990 (by decide +kernel) rfl
theorem um_L_68 : Cond.methodLink RL 68 yX11_undo ∈ uw := uw_mem 1316 (by decide +kernel) rfl
theorem um_L_7 : Cond.methodLink RL 7 yL_macros ∈ uw := uw_mem 732 (by decide +kernel) rfl
theorem um_L_72 : Cond.methodLink RL 72 yX11_bringIn ∈ uw := uw_mem 1322 (by decide +kernel) rfl
theorem um_L_75 : Cond.methodLink RL 75 yX11_move ∈ uw := uw_mem 1328 (by decide +kernel) rfl
theorem um_L_78 : Cond.methodLink RL 78 yX11_moveTree ∈ uw := uw_mem 1339 (by decide +kernel) rfl
theorem um_L_81 : Cond.methodLink RL 81 yX11_approve ∈ uw := uw_mem 1371 (by decide +kernel) rfl
theorem um_L_84 : Cond.methodLink RL 84 yX11_read ∈ uw := uw_mem 1395 (by decide +kernel) rfl
theorem um_L_88 : Cond.methodLink RL 88 yX11_translate ∈ uw := uw_mem 1399 (by decide +kernel) rfl
theorem um_L_91 : Cond.methodLink RL 91 yX11_shown ∈ uw := uw_mem 1404 (by decide +kernel) rfl
theorem um_L_94 : Cond.methodLink RL 94 yX11_shownAnew ∈ uw := uw_mem 1414 (by decide +kernel) rfl
theorem um_L_97 : Cond.methodLink RL 97 yX11_tokenAt ∈ uw := uw_mem 1418 (by decide +kernel) rfl

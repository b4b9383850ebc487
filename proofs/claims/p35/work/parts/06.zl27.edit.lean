/-! THE CALL edit: its pieces -/
section EDP
variable {b kc : Nat} {M M' M1 M2 M11 : Md} {C C' C1 C2 : Cd} {P : Nat → Prop} {VA PA LE AA : Nat → Nat} {nv np na : Nat} {d f g : Nat → Int} {n m dn : Nat} {A B : Nat → Bool}
theorem Tkv_cat (h : Tkv g n) {k : Nat} (h2 : ∀ i, i < k → okt (f i)) : Tkv (cat g n f) (n + k) := fun i hi => by
  by_cases c : i < n
  · rw [cat_lt c]; exact h i c
  · obtain ⟨j, rfl⟩ : ∃ j, i = n + j := ⟨i - n, by omega⟩
    rw [cat_ge]; exact h2 j (by omega)
theorem Tkv_0 : Tkv g 0 := fun k hk => absurd hk (Nat.not_lt_zero _)
theorem Tkv_mn {s : Int} (hf : Tkv f m) (hd : Tkv d dn) : Tkv (mnG f d m dn s) (mnN f m dn s) := by
  unfold mnG mnN
  by_cases c : s = -1
  · rw [if_pos c, if_pos c]
    exact Tkv_cat Tkv_0 (fun i hi => hd _ (by omega))
  · rw [if_neg c, if_neg c]
    have a1 := sst_mono f m (show s.toNat ≤ s.toNat + 1 by omega)
    have a2 := sst_le f m (s.toNat + 1)
    exact Tkv_cat (Tkv_cat (Tkv_cat Tkv_0 (fun i hi => hf _ (by omega))) (fun i hi => hd _ (by omega))) (fun i hi => hf _ (by omega))
theorem Tkv_mgL {fw fp : Nat → Int} {nw npp : Nat} (hw : Tkv fw nw) (hp : Tkv fp npp) : ∀ k i g n g' n', Tkv g n → mgL A B fw fp nw npp i k g n = some (g', n') → Tkv g' n' := by
  intro k
  induction k with
  | zero =>
    intro i g n g' n' h e
    have := Option.some.inj e
    have e1 : g = g' := congrArg Prod.fst this
    have e2 : n = n' := congrArg Prod.snd this
    rw [← e1, ← e2]; exact h
  | succ k ih =>
    intro i g n g' n' h e
    unfold mgL at e
    have a1 := sst_le fp npp (i + 1)
    have a2 := sst_le fw nw (i + 1)
    by_cases c : A i = true
    · rw [if_pos c] at e
      exact ih (i + 1) _ _ g' n' (Tkv_cat h (fun j hj => hp _ (by omega))) e
    · rw [if_neg c] at e
      by_cases c2 : B i = true
      · rw [if_pos c2] at e
        exact ih (i + 1) _ _ g' n' (Tkv_cat h (fun j hj => hw _ (by omega))) e
      · rw [if_neg c2] at e
        exact absurd e (by intro z; cases z)
theorem Tkv_mgO {fb fw fp : Nat → Int} {nb nw npp : Nat} {g' : Nat → Int} {n' : Nat} (hw : Tkv fw nw) (hp : Tkv fp npp) (h : mgO A B fb fw fp nb nw npp = some (g', n')) : Tkv g' n' := by
  unfold mgO at h
  by_cases c : secs fw nw = secs fb nb ∧ secs fp npp = secs fb nb
  · rw [if_pos c] at h
    exact Tkv_mgL hw hp _ 0 _ 0 g' n' Tkv_0 h
  · rw [if_neg c] at h
    exact absurd h (by intro z; cases z)
theorem RH.vaI (h : RH b M C VA PA LE AA nv np na) {v w : Nat} (hv : v < nv) (hw : w < nv) (e : VA v = VA w) : v = w := by
  have n1 := (h.2.2.2.2.1 v hv).1.2.1
  have n2 := (h.2.2.2.2.1 w hw).1.2.1
  rw [e, n2] at n1
  omega
theorem RH.txv (h : RH b M C VA PA LE AA nv np na) {v : Nat} (hv : v < nv) : TxV C (VA v + 1) (tl M v) (tx M v) (tl M v) := (h.2.2.2.2.1 v hv).1.2.2.2.2.1
/-- a version asked for by its number, on both sides -/
theorem RH.verAt (hH : RH b M C VA PA LE AA nv np na) {p t : Nat} (hp : p < np) (ht : t < 24) (h6 : M.2 6 t = (p : Int)) {y : Int} (hy : I32 y) :
   (∃ v i : Nat, y = (v : Int) ∧ v < nv ∧ onp M (p : Int) v = true ∧ i < cnt (onp M (p : Int)) nv ∧ rk M v nv = i ∧ vsl M (p : Int) nv i = v ∧ fX3_indexOf (PA p) y C = some ((i : Int), C) ∧ fX3_versionAtIndex (PA p) (i : Int) C = some (some (VA v), C) ∧ fX12_isVersionAt (t : Int) y M = some (1, M)) ∨
   (fX3_indexOf (PA p) y C = some (-1, C) ∧ fX3_versionAtIndex (PA p) (-1) C = some (none, C) ∧ fX12_isVersionAt (t : Int) y M = some (0, M)) := by
  obtain ⟨f1, f2, f3, f4, f5, f6⟩ := hH.2.2.2.2.2.1 p hp
  have n120 := hH.nv120
  obtain ⟨hA, hBo⟩ := ord_all M (p : Int) nv
  have hx := X3_indexOf_ (x := y) (num := fun i => (vsl M (p : Int) nv i : Int)) f2 hy (fun i hi => by
    have q := hA i hi
    have q2 := (hH.2.2.2.2.1 _ q.1).1
    exact ⟨q2.1, q2.2.1, ⟨by omega, by omega⟩⟩)
  rw [iof_ord] at hx
  have hv0 : ∀ r, fX12_isVersionAt (t : Int) y M = some (r, M) → fX12_isVersionAt (t : Int) y M = some (r, M) := fun _ e => e
  have eP : fX12_hasPage (t : Int) M = some (1, M) := by
    rcases X12_hasPage_ (M := M) ht (by omega) with ⟨e, q⟩ | ⟨e, q⟩
    · exact e
    · exact absurd (by omega) q
  have h8 := hH.1.1.1
  have hI := X12_in_ (x := y) (lo := 0) (hi := M.1 8 - 1) M hy (by decide) ⟨by omega, by omega⟩
  by_cases c : 0 ≤ y ∧ y < (nv : Int) ∧ onp M (p : Int) y.toNat = true
  · rw [if_pos c] at hx
    obtain ⟨v, rfl⟩ : ∃ v : Nat, y = (v : Int) := ⟨y.toNat, by omega⟩
    rw [Int.toNat_natCast] at hx c
    have hv : v < nv := by omega
    obtain ⟨i, hi, ei⟩ := hBo v hv c.2.2
    have a := hA i hi
    rw [ei] at a
    have er : rk M v nv = i := by rw [rk_rkp nv (onp_eq c.2.2)]; exact a.2.2
    rw [er] at hx
    have hva := X3_versionAtIndex_in f2 hi (by rw [ei]; exact (hH.2.2.2.2.1 v hv).1.1)
    rw [ei] at hva
    refine Or.inl ⟨v, i, rfl, hv, c.2.2, hi, er, ei, hx, hva, ?_⟩
    unfold fX12_isVersionAt
    rcases hI with ⟨e, q⟩ | ⟨e, q⟩
    · rw [cal_of eP, bnd_eq, bnd_eq, if_neg (by decide), cal_of e, if_neg (by decide), if_pos (inM (n := 120) rfl (by omega) (by decide)), if_pos (inM (n := 24) rfl ht (by decide)), ix_n (by omega), ix_n (by omega), onp_eq c.2.2, h6, if_neg (fun z => z rfl)]
      rfl
    · exact absurd ⟨by omega, by omega⟩ q
  · rw [if_neg c] at hx
    refine Or.inr ⟨hx, X3_versionAtIndex_out f2 ⟨by decide, by decide⟩ (Or.inl (by decide)), ?_⟩
    unfold fX12_isVersionAt
    rcases hI with ⟨e, q⟩ | ⟨e, q⟩
    · obtain ⟨v, rfl⟩ : ∃ v : Nat, y = (v : Int) := ⟨y.toNat, by omega⟩
      have h12 := hH.1.1.2.2.2.1 v (by omega)
      rw [cal_of eP, bnd_eq, bnd_eq, if_neg (by decide), cal_of e, if_neg (by decide), if_pos (inM (n := 120) rfl (by omega) (by decide)), if_pos (inM (n := 24) rfl ht (by decide)), ix_n (by omega), ix_n (by omega), h6, w32_of (x := M.2 12 v) (by omega) (by omega), w32_n (by omega), if_pos (fun z => c ⟨by omega, by omega, by rw [Int.toNat_natCast]; exact decide_eq_true z⟩)]
      rfl
    · rw [cal_of eP, bnd_eq, bnd_eq, if_neg (by decide), cal_of e, if_pos (by decide)]
      rfl
/-- a next version: the clock, the version; the reference may have emptied its draft -/
theorem RR.addNext (h : RR b kc M C) (hk5 : kc ≤ 600) (e1 : ∀ j, j ≠ 1 → M11.1 j = M.1 j) (e2 : M11.2 = M.2) {t q : Nat} (ht : t < 24) (hq : cR C 1203 (b + 13 + 6 * t) = some q) {T cap : Nat} (hT : TxV C T cap g n) (hg : isTx g n = true) (hk : Tkv g n) (h8 : M.1 8 = (nv : Int)) (hnv : nv < 120) (hr : RV M11 g n) :
   ∃ (p : Nat) (C3 : Cd) (M12 : Md), M.2 6 t = (p : Int) ∧ fX11_addNextVersion b (t : Int) (some q) (some T) C = some ((nv : Int), C3) ∧ fX12_newVersionNow (p : Int) 76 0 (n : Int) M11 = some ((nv : Int), M12) ∧ (∃ (P : Nat → Prop) (VA PA LE AA : Nat → Nat) (nv np na : Nat), RQ P b (mSet M12 1 (M.1 1)) C3 VA PA LE AA nv np na) ∧ (∀ j, j ≠ 5 → j ≠ 8 → M12.1 j = M11.1 j) ∧ M12.1 5 = M.1 5 + 1 ∧ Fp (sFr b) C C3 ∧ (csz C ≤ csz C3 ∧ csz C3 ≤ csz C + 5) ∧ csl C3 ≤ csl C + 400 := by
  obtain ⟨hB, VA, PA, LE, AA, nv', np, na, hq0⟩ := h.rq
  have env : nv' = nv := by have := hq0.2.2.2.2.2.1.1.1.1; omega
  subst env
  obtain ⟨p, hp, h6, hqp⟩ := hq0.page ht hq
  have hn := isTx_n hg
  obtain ⟨ec, hq1⟩ := hq0.tick (x := M.1 5) rfl rfl
  have hL := h.1.1
  have hb5 := hB.1
  have hz : ∀ j, j ≠ 1 → (mSet M11 5 (M.1 5 + 1)).1 j = (mSet M 5 (M.1 5 + 1)).1 j := fun j hj => by
    by_cases c : j = 5
    · rw [c, mS1, mS1]
    · rw [mS2 _ _ c, mS2 _ _ c]; exact e1 j hj
  obtain ⟨r1, r2, r3, r4, r5⟩ := hr
  rw [ml_76] at r2
  obtain ⟨M12, eN, nm⟩ := X12_newVersion_ (M := mSet M11 5 (M.1 5 + 1)) (p := (p : Int)) (tm := M.1 5 + 1) (nv := nv') (n := n) (g := g) (k := 76) (fr := 0) ((hz 8 (by decide)).trans ((mS2 _ _ (by decide)).trans h8)) hnv hn.2 (by decide) (by rw [ml_76]; omega) (by decide) r4
  have nmB : NvM (mSet M 5 (M.1 5 + 1)) (mSet M12 1 (M.1 1)) (p : Int) (M.1 5 + 1) g n nv' := by
    obtain ⟨n1, n8, n2, no, n3, n9⟩ := nm
    refine ⟨fun j hj => ?_, by rw [mS2 _ _ (by decide)]; exact n8, fun k hk' => by rw [show (mSet M 5 (M.1 5 + 1)).2 = (mSet M11 5 (M.1 5 + 1)).2 from e2.symm]; exact n2 k hk', fun v hv => by rw [show (mSet M 5 (M.1 5 + 1)).2 = (mSet M11 5 (M.1 5 + 1)).2 from e2.symm]; exact no v hv, n3, n9⟩
    by_cases c : j = 1
    · rw [c, mS1, mS2 _ _ (by decide)]
    · rw [mS2 _ _ c, n1 j hj]; exact hz j c
  have W := hL.W
  obtain ⟨C3, VA3, LE3, D, eC, hq3, _, s3, l3, f3, _⟩ := hq1.addV ht hp h6 (hT.fp W (S := fun q k a => q = 0 ∧ k = 1406) (Fp.I W _ _ _ ⟨rfl, rfl⟩) (by omega) (by omega) (by omega) (by omega)) hg hk hnv (tm := M.1 5 + 1) ⟨by omega, by omega⟩ nmB
  have fT : Fp (sFr b) C (cSetI C 1406 b (M.1 5 + 1)) := (Fp.I (S := fun q _ _ => q = 0) W _ _ _ rfl).fr (fun a z => by omega)
  have hLE : b + 854 ≤ LE p := (hq0.2.2.2.2.2.1.2.2.2.2.2.1 p hp).2.2.2.2.2
  have zc : csz (cSetI C 1406 b (M.1 5 + 1)) = csz C := rfl
  have zd : csl (cSetI C 1406 b (M.1 5 + 1)) = csl C := rfl
  refine ⟨p, C3, M12, h6, ?_, ?_, ⟨_, VA3, PA, LE3, AA, nv' + 1, np, na, hq3⟩, fun j j5 j8 => ?_, ?_, fT.tr (f3.fr (fun a z => by unfold sAv at z; omega)), by omega, by omega⟩
  · unfold fX11_addNextVersion
    rw [if_pos hL.o, if_pos hL.o, bnd_eq, ec, if_pos (show isO (cSetI C 1406 b (M.1 5 + 1)) b 14 from hL.o), if_pos (show isO (cSetI C 1406 b (M.1 5 + 1)) b 14 from hL.o), cI_I1, hqp, cal_of eC]
  · unfold fX12_newVersionNow
    have e5 : M11.1 5 = M.1 5 := e1 5 (by decide)
    have eN' : fX12_newVersion (p : Int) (M.1 5 + 1) 76 0 (n : Int) (mSet M11 5 (M.1 5 + 1)) = some ((nv' : Int), M12) := eN
    rw [bnd_eq, e5, mS1, cal_of eN']
  · rw [nm.1 j j8, mS2 _ _ j5]
  · rw [nm.1 5 (by decide), mS1]
end EDP

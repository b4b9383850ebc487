/-! THE LAW'S DEEDS: undo, whole -/
section DU4
variable {b kc N np t : Nat} {E : Rw} {G : Md} {C : Cd} {T : Nat → List Nat} {q : Nat → Nat}
theorem isVerNo (hL : LW N np T E G) (ht : t < 8) : fX12_isVersionAt (t : Int) (N : Int) G = some (0, G) := by
  have n32 := hL.1.1.2.1
  unfold fX12_isVersionAt
  by_cases hp : G.2 6 t = -1
  · rw [cal_of (hasP0 hL ht hp), bnd_eq, bnd_eq, if_pos (by decide)]
    rfl
  · rw [cal_of (hasP hL ht hp), bnd_eq, bnd_eq, if_neg (by decide)]
    rcases X12_in_ (x := (N : Int)) (lo := 0) (hi := G.1 8 - 1) G ⟨by omega, by omega⟩ ⟨by decide, by decide⟩ ⟨by rw [hL.2.2.2.2.2.1]; omega, by rw [hL.2.2.2.2.2.1]; omega⟩ with ⟨e, q⟩ | ⟨e, q⟩
    · exact absurd q.2 (by rw [hL.2.2.2.2.2.1]; omega)
    · rw [cal_of e, if_pos (by decide)]
      rfl
theorem un_748z {x24 r67 r9 : Int} (J : Int → Rw → Cd → (Nat → Nat) → Option (Int × S3)) : fW_law_748 b 1 (t : Int) r9 J x24 r67 0 E C q = fW_law_843 b (t : Int) r67 0 0 0 (fun v E C q => fW_law_930 J v E C q) E C q := by
  unfold fW_law_748
  rw [bnd_eq, if_pos (by decide)]
  show fW_law_788 b 1 (t : Int) r9 J r67 0 0 E C q = _
  unfold fW_law_788 fW_law_825
  rw [bnd_eq, bnd_eq, if_pos (by decide)]
  show fW_law_826 b 1 (t : Int) J r67 0 0 0 E C q = _
  unfold fW_law_826
  rw [bnd_eq, bnd_eq, if_pos (by decide)]
theorem un_748y {j u v pv : Nat} (hL : LW N np T E G) (ht : t < 8) (hu : u < N) (hv : v < N) (hpv : pv < N) (e : vofF G N t j = (u : Int)) (hj : j < 1000) (J : Int → Rw → Cd → (Nat → Nat) → Option (Int × S3)) : fW_law_748 b 1 (t : Int) (pv : Int) J ((j + 1 : Nat) : Int) (v : Int) 1 E C q = fW_law_788 b 1 (t : Int) (pv : Int) J (v : Int) 1 (encO (unW (T u) (T v) (T pv))) E C q := by
  have n32 := hL.1.1.2.1
  obtain ⟨ru, ku, ou, lu1, lu2⟩ := hL.rep hu
  obtain ⟨rv, kv, ov, lv1, lv2⟩ := hL.rep hv
  obtain ⟨rp, kp, op, lp1, lp2⟩ := hL.rep hpv
  have vo := W_versionOf hL.1.1 hL.1.2.1 ht (place := j) (by omega)
  rw [e] at vo
  have iu : inR (u : Int) (wLen 3) := inWn 32 wl_3 (by omega) (by decide)
  have iv : inR (v : Int) (wLen 3) := inWn 32 wl_3 (by omega) (by decide)
  have ip : inR (pv : Int) (wLen 3) := inWn 32 wl_3 (by omega) (by decide)
  have eu := (hL.1.2.2.1 u hu).1
  have ev := (hL.1.2.2.1 v hv).1
  have ep := (hL.1.2.2.1 pv hpv).1
  have ud := W_undone (ou.tm (by omega)) (ov.tm (by omega)) (op.tm (by omega))
  rw [← eu, ← ev, ← ep] at ud
  have xu : ix (u : Int) = u := ix_n (by omega)
  have xv : ix (v : Int) = v := ix_n (by omega)
  have xp : ix (pv : Int) = pv := ix_n (by omega)
  unfold fW_law_748
  rw [bnd_eq, if_neg (by decide), show ((j + 1 : Nat) : Int) - 1 = (j : Int) by omega, cal1_of vo, if_pos iu, if_pos iv, if_pos ip, xu, xv, xp, cal1_of ud]
theorem D_undo {x17 : Nat} {t03 r11 x23 : Int} (h : RR b kc G C) (hkc : kc ≤ 600) (hL : LW N np T E G) (ht : t < 8) (h32 : N < 32) (h3 : E 0 3 + 8 < 100000) (hx : x17 < 2147483648) (J : Int → Rw → Cd → (Nat → Nat) → Option (Int × S3)) : DeedO b kc E C (fW_law_696 b 1 10 (x17 : Int) (t : Int) t03 (prAt G N t) r11 x23 J E C q) J := by
  have ho := h.1.1.o
  have e00 : E 0 0 = (N : Int) := hL.1.1.1
  have i0 : inR 0 (wLen 0) := inW 4 wl_0 (by decide) (by decide) (by decide)
  have c32 : ¬ w32 32 ≤ w32 (N : Int) := by rw [w32_n (by omega), show w32 32 = 32 from rfl]; omega
  have ed : remI (divI (x17 : Int) 9) 3 = ((x17 / 9 % 3 : Nat) : Int) := by
    rw [show (9 : Int) = ((9 : Nat) : Int) from rfl, divI_N (by omega) (by decide) (by decide), show (3 : Int) = ((3 : Nat) : Int) from rfl, remI_N (by omega) (by omega) (by omega)]
  have l3 : x17 / 9 % 3 < 3 := Nat.mod_lt _ (by decide)
  generalize x17 / 9 % 3 = pl at *
  have vo := W_versionOf hL.1.1 hL.1.2.1 ht (place := pl) (by omega)
  rw [vofF_at] at vo
  -- an undoing that is refused
  have no : ∀ y r67 : Int, ((r67 = y ∧ 0 ≤ y ∧ y < 1000) ∨ (r67 = -1 ∧ E 0 0 = y)) → (0 ≤ y ∧ y < 1000) → (fX12_isVersionAt (t : Int) y G = some (0, G) ∨ ∃ v : Nat, y = (v : Int) ∧ v < N ∧ fX12_isVersionAt (t : Int) y G = some (1, G) ∧ rk G v N = 0) → fW_law_696 b 1 10 (x17 : Int) (t : Int) t03 (prAt G N t) r11 x23 J E C q = fW_law_748 b 1 (t : Int) (prAt G N t) J (pl : Int) r67 0 E C q → DeedO b kc E C (fW_law_696 b 1 10 (x17 : Int) (t : Int) t03 (prAt G N t) r11 x23 J E C q) J := by
    intro y r67 hy hy2 hn he
    obtain ⟨C2, G2, e1, e2, e3, e4⟩ := R_undoNo h hkc hL ht hy2 hn
    obtain ⟨E2, s1, s2, s3, s4⟩ := e4.rest e2 h3
    exact ⟨E, C2, q, G2, E2, N, np, T, he.trans ((un_748z J).trans (un_no0 hy ho e1 _)), e2, s1, s2, ((IsR.rml e3).mono (by omega) (by omega)), s3, by omega⟩
  by_cases hlt : pl < nVers G N t
  · rw [if_pos hlt] at vo
    have hp : G.2 6 t ≠ -1 := fun z => by unfold nVers at hlt; rw [if_pos z] at hlt; omega
    obtain ⟨v1, v2, v3, v4⟩ := isVer h hL ht hp hlt
    have cv : ¬ w32 (vsl G (G.2 6 t) N pl : Int) < 0 := by rw [w32_n (by omega)]; omega
    by_cases c0 : pl = 0
    · subst c0
      refine no (vsl G (G.2 6 t) N 0 : Int) (vsl G (G.2 6 t) N 0 : Int) (Or.inl ⟨rfl, by omega, by omega⟩) ⟨by omega, by omega⟩ (Or.inr ⟨_, rfl, v1, v2, v3⟩) ?_
      unfold fW_law_696 fW_law_747
      rw [bnd_eq, if_neg (fun z => z rfl), if_pos i0, show ix 0 = 0 from rfl, e00, if_neg c32, ed, bnd_eq, cal1_of vo, bnd_eq, bnd_eq, if_neg cv, if_pos (by decide)]
    · obtain ⟨j, rfl⟩ : ∃ j, pl = j + 1 := ⟨pl - 1, by omega⟩
      obtain ⟨u1, u2, u3, u4⟩ := isVer h hL ht hp (j := j) (by omega)
      have pr := h.prN hL.2.2.2.2.2.1 (show t < 24 by omega) hp
      have prg := (prAt_lt (N := N) hL.1.2.1 ht).resolve_left pr
      obtain ⟨pv, hpv⟩ : ∃ pv : Nat, prAt G N t = (pv : Int) := ⟨(prAt G N t).toNat, by omega⟩
      have pvN : pv < N := by omega
      have vj : vofF G N t j = (vsl G (G.2 6 t) N j : Int) := by rw [vofF_at, if_pos (by omega)]
      have X := R_undoX h hkc hL ht hp hlt h32 h3
      clear no
      rw [hpv, Int.toNat_natCast] at X
      rw [hpv]
      generalize vsl G (G.2 6 t) N j = u at *
      generalize vsl G (G.2 6 t) N (j + 1) = v at *
      obtain ⟨ru, ku, ou, lu1, lu2⟩ := hL.rep u1
      obtain ⟨rp, kp, op, lp1, lp2⟩ := hL.rep pvN
      have he : fW_law_696 b 1 10 (x17 : Int) (t : Int) t03 (pv : Int) r11 x23 J E C q = fW_law_788 b 1 (t : Int) (pv : Int) J (v : Int) 1 (encO (unW (T u) (T v) (T pv))) E C q := by
        refine Eq.trans ?_ (un_748y hL ht u1 v1 pvN vj (by omega) J)
        unfold fW_law_696 fW_law_747
        rw [bnd_eq, if_neg (fun z => z rfl), if_pos i0, show ix 0 = 0 from rfl, e00, if_neg c32, ed, bnd_eq, cal1_of vo, bnd_eq, bnd_eq, if_neg cv, if_neg (by rw [w32_n (by omega)]; omega)]
      rcases X with ⟨hn, C', G', e1, e2, e3, e4⟩ | ⟨R, g1, g2⟩ | ⟨R, g1, l5, ⟨y1, y2⟩, C', G', E2, e1, e2, e3, e4, e5, e6, e7⟩
      · obtain ⟨E2, s1, s2, s3, s4⟩ := e4.rest e2 h3
        refine ⟨E, C', q, G', E2, N, np, T, ?_, e2, s1, s2, ((IsR.rml e3).mono (by omega) (by omega)), s3, by omega⟩
        rw [he]
        rcases hn with g1 | ⟨R, g1, l5, g3⟩
        · rw [g1, show encO none = 0 from rfl]
          exact (un_788n J).trans (un_no (by omega) ho e1 _)
        · have okR := unW_ok ku kp g1
          rw [g1, show encO (some R) = encT (R.take 6) from rfl, take_5 l5]
          exact (un_788k hL pvN okR l5 g3 J).trans (un_no (by omega) ho e1 _)
      · obtain ⟨E2, s1, s2, s3, s4⟩ := hL.rest h h3
        refine ⟨E, C, q, G, E2, N, np, T, ?_, h.rb (h.2.2.2.1.up ScO.rf), s1, s2, ((IsR.sz (Sz.rf C)).mono (by omega) (by omega)), s3, by omega⟩
        rw [he, g1]
        exact un_788s hL pvN (unW_ok ku kp g1) g2 J
      · have okR := unW_ok ku kp g1
        refine ⟨avE (wPut E 0 2 (G.1 5 + 1)) N (G.2 6 t) (G.1 5 + 1) R, C', q, G', E2, N + 1, np, _, ?_, e2, e4, e5, ((IsR.rml e3).mono (by omega) (by omega)), e6, by omega⟩
        rw [he, g1, show encO (some R) = encT (R.take 6) from rfl, take_5 l5]
        exact (un_788y hL pvN okR l5 y1 y2 J).trans (un_yes hL ht (by omega) h32 rfl ho e1 _)
  · rw [if_neg hlt] at vo
    refine no (N : Int) (-1) (Or.inr ⟨rfl, e00⟩) ⟨by omega, by omega⟩ (Or.inl (isVerNo hL ht)) ?_
    unfold fW_law_696 fW_law_747
    rw [bnd_eq, if_neg (fun z => z rfl), if_pos i0, show ix 0 = 0 from rfl, e00, if_neg c32, ed, bnd_eq, cal1_of vo, bnd_eq, bnd_eq, if_pos (by decide)]
end DU4

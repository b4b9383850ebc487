/-! RENDERING: the calls' part -/
section RND2
variable {b kc : Nat} {M M' : Md} {C C' : Cd} {t : Nat}
theorem RR.rb {k' : Nat} (h : RR b kc M C) (hb : RB k' M) : RR b k' M C := ⟨h.1, h.2.1, h.2.2.1, hb, h.2.2.2.2⟩
theorem RR.render (h : RR b kc M C) (hk : kc ≤ 1000) (ht : t < 24) (hne : M.2 6 t ≠ -1) : ∃ C' M' acc, fX11_render b (t : Int) (some (b + 13 + 6 * t)) C = some ((), C') ∧ fX12_render (t : Int) M = some ((), M') ∧ RR b (kc + 1) M' C' ∧ Rm b C C' ∧ (csz C ≤ csz C' ∧ csl C ≤ csl C') ∧ (∀ j, j ≤ 36 → j ≠ 22 → M'.1 j = M.1 j) ∧ (M.1 22 ≤ M'.1 22 ∧ M'.1 22 ≤ M.1 22 + 8) ∧ RowV C' (b + 13 + 6 * t + 2) acc ∧ M'.2 30 t = (acc.length : Int) := by
  have hL := h.1.1
  have W := hL.W
  have hz := hL.sz
  obtain ⟨VA, PA, LE, AA, nv, np, na, hH, hK, hc⟩ := h.at_ ht
  obtain ⟨nv1, np1⟩ := hH.nv120
  rcases hc with ⟨c1, c2⟩ | ⟨p, p1, p2, p3⟩
  · exact absurd c1 hne
  obtain ⟨f1, f2, f3, f4, f5, f6⟩ := hH.2.2.2.2.2.1 p p1
  obtain ⟨v, v1, v2, v3, v4⟩ := hH.pres p1
  obtain ⟨w1, w2⟩ := hH.2.2.2.2.1 v v1
  obtain ⟨lk, ct, rd, cd, us, hg⟩ := h.sets
  have es : seen M nv na (-1) t = (v : Int) := by
    unfold seen
    rw [if_pos (Or.inl rfl)]
    unfold prAt
    rw [if_neg (by omega), p2]
    exact v2
  have m39 : (mSet M 39 (-1)).1 39 = -1 := mS1 _ _ _
  have mo : ∀ j, j ≠ 39 → (mSet M 39 (-1)).1 j = M.1 j := fun j hj => mS2 M _ hj
  have m2e : (mSet M 39 (-1)).2 = M.2 := rfl
  have ep := X12_presentAt_ (M := mSet M 39 (-1)) (nv := nv) (hH.1.1.same ⟨fun j hj => mo j (by omega), fun k _ => rfl⟩) ht (by show I32 (M.2 6 t); rw [p2]; exact ⟨by omega, by omega⟩)
  have epv : prAt (mSet M 39 (-1)) nv t = (v : Int) := by
    rw [prAt_same (M := M) ⟨fun j hj => mo j (by omega), fun k _ => rfl⟩]
    unfold prAt
    rw [if_neg (by omega), p2]
    exact v2
  rw [epv] at ep
  obtain ⟨C1, Me, acc, s', q1, q2, q3, q4, q5, q6, q7, q8, q9, q10, q11, q12⟩ := h.expand (by omega) hH (ct := ct) (fun t ht => by obtain ⟨r, q⟩ := hg t ht; exact q.2.2.2.1.2.1) (fun t ht => by obtain ⟨r, q⟩ := hg t ht; exact q.2.2.2.2.1) (M1 := mSet M 39 (-1)) (up := -1) (fun j hj => mo j (by omega)) (fun k _ => by rw [m2e]) m39 (by decide) ht (by omega)
  rw [es] at q1 q2
  rw [Int.toNat_natCast] at q1
  have hE := h.quiet q3 (sX_qt h.1.2.1) (sX_hs hL) q4 q11
  have hL1 := q4.1
  have hz1 := hL1.sz
  have k1 : ∀ k u, u < 24 → 701 ≤ k → k ≤ 707 → cI C1 k (b + 13 + 6 * u + 1) = cI C k (b + 13 + 6 * u + 1) := fun k u hu a c => by
    have dn : ¬ DyC b C (b + 13 + 6 * u + 1) := fun ⟨ff, pp, hf, hp, hd⟩ => by have := (h.1.2.1 ff pp _ hf hp hd).2.1; omega
    exact q3.fI (by omega) (fun z => by
      rcases z with ⟨_, z | z | ⟨z, z2 | z2⟩ | ⟨z, ff, z1, z2⟩ | ⟨z, ff, z1, z2⟩⟩ | ⟨z, _⟩ | ⟨z, _⟩ | ⟨z, _⟩
      all_goals first | omega | exact dn z2)
  obtain ⟨C2, e2, t1, t2, t3, t4, t5, t6, t7, t8, t9, t10, t11⟩ := X4_take_ hL1 ht q6
  have hL2 := hL1.keep (t1.mono (fun _ _ _ _ z => z.mu))
  obtain ⟨⟨s1, s1'⟩, ⟨s2, s2'⟩, ⟨s3, s3'⟩, ⟨s4, s4'⟩, ⟨s5, s5'⟩⟩ := q7
  obtain ⟨rt, gt⟩ := hg t ht
  have ct8 := gt.2.2.2.1.2.1
  have hcs : ct t ^^^ aCt s' < 256 := Nat.xor_lt_two_pow (n := 8) ct8.2 s2'
  have k2 : ∀ k u, u < 24 → u ≠ t → cI C2 k (b + 13 + 6 * u + 1) = cI C1 k (b + 13 + 6 * u + 1) := fun k u hu hn => t1.fI (by omega) (by unfold sTk sRow; omega)
  obtain ⟨C3, e3, n1, n2, n3, n4⟩ := X11_noteMemberChange_ hL2 (cs := ct t ^^^ aCt s') hcs (ct := fun j => if j = t then aCd s' else cd j) (fun j hj => by
    by_cases e : j = t
    · subst e
      rw [if_pos rfl]
      exact ⟨t10.trans s4, s4'⟩
    · rw [if_neg e, k2 706 j hj e, k1 706 j hj (by decide) (by decide)]
      obtain ⟨r, q⟩ := hg j hj
      exact q.2.2.2.1.2.2.2.1)
  have hL3 := hL2.keep (n1.mono (fun _ _ _ _ z => z.mu))
  have k3 : ∀ k u, u < 24 → k ≠ 702 → cI C3 k (b + 13 + 6 * u + 1) = cI C2 k (b + 13 + 6 * u + 1) := fun k u hu hn => n1.fI (by have := hL2.sz; omega) (by unfold sSt; omega)
  obtain ⟨M', e4, rm⟩ := X12_render_ ht ep q2 q9 q10 (ct := ct t) (by rw [q8.2 32 (by decide)]; exact gt.2.2.2.2.1) ct8.2
  have ff : Fp (sRn b t) C1 C3 := (t1.mono (fun _ _ _ _ z => Or.inl z)).tr (n1.mono (fun _ _ _ _ z => Or.inr z))
  have e22 : Me.1 22 = M.1 22 := (q8.1 22 (by decide)).trans (mo 22 (by decide))
  have rm1 := rm.1
  rw [← e22] at rm
  have hR := hE.rendered ht (by rw [q8.2 6 (by decide)]; exact hne) ff hL3 ((k1 704 t ht (by decide) (by decide)).trans ct8.1) ⟨s1', s2', s3', s4', s5'⟩ rm (t4.fp hL2.W n1 (by unfold sSt; omega) (by unfold sSt; omega) (by unfold sSt; omega) (by unfold sSt; omega)) ((k3 701 t ht (by decide)).trans t5) (by
    have y := n4 t ht
    rw [if_pos rfl, t6] at y
    rw [y]
    by_cases z : aCd s' &&& (ct t ^^^ aCt s') ≠ 0
    · rw [decide_eq_true z, ite_tt, if_pos z]
    · rw [decide_eq_false z, ite_ff, if_neg z]) ⟨(k3 703 t ht (by decide)).trans (t7.trans s1), (k3 704 t ht (by decide)).trans (t8.trans s2), (k3 705 t ht (by decide)).trans (t9.trans s3), (k3 706 t ht (by decide)).trans (t10.trans s4), (k3 707 t ht (by decide)).trans (t11.trans s5)⟩ (fun u hu hn c hc => by
    have y := n4 u hu
    obtain ⟨r, q⟩ := hg u hu
    have hcu : c = cd u := by
      have a1 := q.2.2.2.1.2.2.2.1.1
      rw [k1 706 u hu (by decide) (by decide), a1] at hc
      omega
    rw [if_neg hn, k2 702 u hu hn] at y
    rw [y, hcu]
    by_cases z : cd u &&& (ct t ^^^ aCt s') ≠ 0
    · rw [decide_eq_true z, ite_tt, if_pos z]
    · rw [decide_eq_false z, ite_ff, if_neg z])
  obtain ⟨r1, r2, r3, r4⟩ := rm1
  have lowM : ∀ j, j ≤ 36 → j ≠ 22 → M'.1 j = M.1 j := fun j a c => (r1 j c).trans ((q8.1 j (by omega)).trans (mo j (by omega)))
  have pk : ∀ f, f < 41 → ∀ x, cP C3 (b + 169 + 4 * f + 2) x = cP C1 (b + 169 + 4 * f + 2) x := fun f hf x => ff.fP (by omega) (by unfold sRn sTk sSt sRow; omega) x
  have hx3 : xorI (cI C1 704 (b + 13 + 6 * t + 1)) (cI C1 704 (b + 10)) = ((ct t ^^^ aCt s' : Nat) : Int) := by
    rw [k1 704 t ht (by decide) (by decide), ct8.1, s2]
    exact xorI_N (by omega) (by omega)
  refine ⟨C3, M', acc, ?_, e4, hR.rb ?_, q12.tr (Rm.same ⟨n2.trans t2, n3.trans t3⟩ pk), ⟨by have := q3.1; omega, by have := q3.2.1; omega⟩, lowM, ⟨by omega, by omega⟩, t4.fp hL2.W n1 (by unfold sSt; omega) (by unfold sSt; omega) (by unfold sSt; omega) (by unfold sSt; omega), rm.2.2.2.2.1.2.2.1⟩
  · unfold fX11_render
    rw [drf_some, if_pos (hL.to ht), bnd_eq, p3, opt_some, if_pos hL.o, bnd_eq, hL.r0, if_pos (hL.to ht), bnd_eq, drf_some, if_pos f2.1, bnd_eq, v4, drf_some, if_pos w1.1, bnd_eq, w1.2.2.2.1, drf_some, if_pos hL.oe, cal_of q1, if_pos (hL1.to ht), bnd_eq, hL1.tr ht, drf_some, if_pos (hL1.ro ht), if_pos hL1.o, bnd_eq, hL1.r0, drf_some, if_pos hL1.oe, bnd_eq, hL1.x7, drf_some, if_pos hL1.od, hx3, bnd_eq, if_pos (hL1.to ht), bnd_eq, if_pos hL1.o, bnd_eq, drf_some, if_pos hL1.oe, bnd_eq, drf_some, if_pos (hL1.ro ht), hL1.x7, cal_of e2, if_pos hL2.o, cal_of e3]
  · obtain ⟨⟨b1, b2⟩, b3, b4, b5⟩ := h.2.2.2.1
    unfold RB
    rw [lowM 5 (by decide) (by decide), lowM 13 (by decide) (by decide)]
    exact ⟨⟨b1, by omega⟩, by omega, by omega, by omega⟩
end RND2

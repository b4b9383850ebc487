/-! A RENDERING in the reference, from the law's texts; the law's own rows on the class's heap -/
theorem Fp.bumpA {C : Cd} (W : Wf C) (n : Nat) : Fp (fun _ _ _ => False) C (cBumpA C n) := ⟨Nat.le_succ _, Nat.le_add_right _ _, fun a ha => Nat.lt_succ_of_lt (W a ha), fun _ _ => ⟨Iff.rfl, rfl, rfl⟩, fun _ _ => ⟨fun _ _ => rfl, fun _ _ => rfl, fun _ _ => rfl, fun _ _ => rfl⟩⟩
section REN3
variable {b kc N np t : Nat} {E : Rw} {G : Md} {C : Cd} {T : Nat → List Nat}
theorem RR.bumpA (h : RR b kc G C) (n : Nat) : RR b kc G (cBumpA C n) := (h.nil (Fp.bumpA h.1.1.W n) ScO.rf).rb h.2.2.2.1
theorem RR.ctq (h : RR b kc G C) (ht : t < 24) : cI C 704 (b + 13 + 6 * t + 1) = (ctF G t : Int) ∧ ctF G t < 256 ∧ G.2 32 t = (ctF G t : Int) := by
  obtain ⟨r, lk, ct, rd, cd, us, q⟩ := h.rg ht
  have e : ctF G t = ct := by unfold ctF; rw [q.2.2.2.2.1]; rfl
  rw [e]
  exact ⟨q.2.2.2.1.2.1.1, q.2.2.2.1.2.1.2, q.2.2.2.2.1⟩
/-- the surroundings -/
theorem RR.en (h : RR b kc G C) (hk : kc ≤ 1000) (h8 : G.1 8 = (N : Int)) (hW : LRw N G T E) : ∃ En, LEn N G T En ∧ (∀ t, t < 24 → eSn En t = prAt G N t) ∧ EnP En ∧ ∀ M1 : Md, (∀ j, j ≤ 35 → M1.1 j = G.1 j) → (∀ k, k ≤ 40 → M1.2 k = G.2 k) → M1.1 39 = -1 → EnM M1 En := by
  obtain ⟨VA, PA, LE, AA, np, na, hH, hK⟩ := h.nN h8
  have h5 : G.1 5 < 2147483648 := by have := h.2.2.2.1.1.2; omega
  have hMo := h.2.2.2.2.2.1
  have hs : ∀ t, eSn (envF G N na (-1) (fun t => ctF G t)) t = prAt G N t := fun t => by show seen G N na (-1) t = _; unfold seen; rw [if_pos (Or.inl rfl)]
  refine ⟨envF G N na (-1) (fun t => ctF G t), ⟨fun t _ => hs t, rfl, fun v hv => (hW.2.2.1 v hv).2.2.2.1, fun c _ => memb8 hW.2.2.2.1 c⟩, fun t _ => hs t, env_p hH hMo (-1), fun M1 a1 a2 a3 => env_m hH hMo (fun t ht => ⟨(h.ctq ht).2.2, (h.ctq ht).2.1⟩) h5 a1 a2 a3 (by decide)⟩
/-- what a rendering changes in the reference -/
def RdG (G G' : Md) (t : Nat) (A : MSt) : Prop := (∀ j, j ≤ 35 → j ≠ 22 → G'.1 j = G.1 j) ∧ (G.1 22 ≤ G'.1 22 ∧ G'.1 22 ≤ G.1 22 + 8) ∧ (∀ c, c < 8 → if (ctF G t).testBit c ≠ A.2.2.2.1.testBit c then G.1 22 < G'.2 24 c else G'.2 24 c = G.2 24 c) ∧ (∀ k, (k < 24 ∨ k = 25 ∨ k = 26 ∨ k = 36) → G'.2 k = G.2 k) ∧ (∀ k, (k = 27 ∨ k = 28 ∨ (30 ≤ k ∧ k ≤ 35)) → ∀ u, u ≠ t → G'.2 k u = G.2 k u) ∧ (∀ x, (x < 150 * t ∨ 150 * t + 150 ≤ x) → G'.2 29 x = G.2 29 x) ∧
  (G'.2 27 t = 1 ∧ G'.2 28 t = G.1 22 ∧ G'.2 30 t = (A.1.length : Int) ∧ ∀ i, i < A.1.length → G'.2 29 (150 * t + i) = A.1.getD i 0) ∧ (G'.2 31 t = (A.2.2.1 : Int) ∧ G'.2 32 t = (A.2.2.2.1 : Int) ∧ G'.2 33 t = (A.2.2.2.2.1 : Int) ∧ G'.2 34 t = (A.2.2.2.2.2 : Int) ∧ G'.2 35 t = 0) ∧ G'.1 36 = G.1 36
theorem R_render (h : RR b kc G C) (hk : kc ≤ 1000) (h8 : G.1 8 = (N : Int)) (hW : LRw N G T E) (ht : t < 8) (hp : prAt G N t ≠ -1) : ∃ En G', LEn N G T En ∧ fX12_render (t : Int) G = some ((), G') ∧ RdG G G' t (mX En T 6 [t] (T (prAt G N t).toNat) mA0) ∧ (mX En T 6 [t] (T (prAt G N t).toNat) mA0).2.2.2.1 < 256 := by
  obtain ⟨En, e1, e2, e3, e4⟩ := h.en hk h8 hW
  obtain ⟨VA, PA, LE, AA, np, na, hH, hK⟩ := h.nN h8
  have ht24 : t < 24 := by omega
  have hne : eSn En t ≠ -1 := by rw [e2 t ht24]; exact hp
  have mo : ∀ j, j ≠ 39 → (mSet G 39 (-1)).1 j = G.1 j := fun j hj => mS2 G _ hj
  have m39 : (mSet G 39 (-1)).1 39 = -1 := mS1 _ _ _
  have hEM := e4 (mSet G 39 (-1)) (fun j hj => mo j (by omega)) (fun k _ => rfl) m39
  obtain ⟨⟨acc, s'⟩, hrun⟩ := runX_top e3 ht24 hne
  obtain ⟨M', m1, m2, m3, m4, m5⟩ := X12_expand_ e3 hEM (by rw [mo 71 (by decide)]; exact h.2.2.1.2.2.2.1) ht24 hne hrun
  obtain ⟨z1, z2⟩ := runX_mtop (e1.tm hW) ht hne hrun
  have pgr := h.pg ht24
  have ep := X12_presentAt_ (M := mSet G 39 (-1)) (nv := N) (hH.1.1.same ⟨fun j hj => mo j (by omega), fun k _ => rfl⟩) ht24 (by show I32 (G.2 6 t); exact ⟨by omega, by omega⟩)
  rw [prAt_same (M := G) (M' := mSet G 39 (-1)) ⟨fun j hj => mo j (by omega), fun k _ => rfl⟩] at ep
  rw [e2 t ht24] at m1
  have c1 := h.ctq ht24
  obtain ⟨G', r1, ⟨⟨a1, a2, a3, a4⟩, a5, a6, a7, ⟨a8, a9, a10, a11⟩, a12, a13, a14, a15, a16⟩⟩ := X12_render_ (M0 := G) ht24 ep m1 m3 m4 ((congrFun (m2.2 32 (by decide)) t).trans c1.2.2) c1.2.1
  rw [e2 t ht24] at z1
  refine ⟨En, G', e1, r1, ?_, ?_⟩
  · rw [← z1]
    have f1 : ∀ j, j < 39 → M'.1 j = G.1 j := fun j hj => (m2.1 j (by omega)).trans (mo j (by omega))
    have f2 : ∀ k, k < 41 → M'.2 k = G.2 k := fun k hk => m2.2 k (by omega)
    refine ⟨fun j hj h22 => (a1 j h22).trans (f1 j (by omega)), ⟨by rw [f1 22 (by decide)] at a2; exact a2, by rw [f1 22 (by decide)] at a3; exact a3⟩, fun c hc => ?_, fun k hk => (a5 k (by omega)).trans (f2 k (by omega)), fun k hk u hu => (a6 k hk u hu).trans (congrFun (f2 k (by omega)) u), fun x hx => (a7 x hx).trans (congrFun (f2 29 (by decide)) x), ⟨a8, a9, a10, a11⟩, ⟨a12, a13, a14, a15, ?_⟩, (a1 36 (by decide)).trans (f1 36 (by decide))⟩
    · have q := a4 c hc
      rw [f1 22 (by decide), f2 24 (by decide)] at q
      by_cases d : (ctF G t).testBit c ≠ (aCt s').testBit c
      · rw [if_pos ⟨hc, d⟩] at q
        rw [if_pos d]
        exact q.1
      · rw [if_neg (fun y => d y.2)] at q
        rw [if_neg d]
        exact q
    · rw [a16, z2]; rfl
  · rw [← z1]
    exact m4.2.1.2
end REN3

/-! WHERE TITLES LEAD -/
section LDS
variable {b kc : Nat} {M M' : Md} {C C' : Cd}
/-- only ways' scratch is other in the reference -/
def ScW (M M1 : Md) : Prop := (∀ j, j ≠ 68 → j ≠ 39 → j ≠ 36 → M1.1 j = M.1 j) ∧ M1.2 = M.2 ∧ 0 ≤ M1.1 68 ∧ M1.1 68 < 16777216
theorem ScW.sc (h : ScW M M') : ScO M M' := ⟨fun j hj => h.1 j (by omega) (by omega) (by omega), fun k _ => by rw [h.2.1], Or.inr h.2.2, Or.inl (h.1 71 (by decide) (by decide) (by decide))⟩
theorem RR.ways (h : RR b kc M C) (hk : kc ≤ 10000) : ∃ (E : Env) (G : Nat → Int) (VA PA LE AA : Nat → Nat) (nv np na : Nat), RH b M C VA PA LE AA nv np na ∧ (∀ t, eSn E t = prAt M nv t) ∧ E.1 = tx M ∧ (∀ t, t < 24 → (G t = -1 ∨ (0 ≤ G t ∧ G t < 24)) ∧ (G t = (t : Int) ↔ (eSn E t ≠ -1 ∧ eTx E (eSn E t).toNat 0 / 1000 ≠ 12))) ∧
   (∀ C1, Fp (sWy b) C C1 → ∀ t : Nat, t < 24 → ∃ C2, fX1_goalOf (b + 1) (t : Int) (-1) C1 = some (G t, C2) ∧ Fp (sWy b) C C2 ∧ csz C2 = csz C1 ∧ csl C2 = csl C1) ∧
   ∀ M1, ScW M M1 → ∀ t : Nat, t < 24 → ∃ M2, fX12_leadsTo (t : Int) M1 = some (G t, M2) ∧ ScW M M2 ∧ M2.1 36 = M1.1 36 := by
  have hL := h.1.1
  have W := hL.W
  have hz := hL.sz
  have hX := h.1.2.1
  have h5 : M.1 5 < 2147483648 := by have := h.2.2.2.1.1.2; omega
  have hMo := h.2.2.2.2.2.1
  obtain ⟨VA, PA, LE, AA, nv, np, na, hH, hK⟩ := h.2.2.2.2.2.2.1
  obtain ⟨lk, ct, rd, cd, us, hg⟩ := h.sets
  have hct : ∀ t, t < 24 → cI C 704 (b + 13 + 6 * t + 1) = (ct t : Int) ∧ ct t < 256 := fun t ht => by obtain ⟨r, q⟩ := hg t ht; exact q.2.2.2.1.2.1
  have hct2 : ∀ t, t < 24 → M.2 32 t = (ct t : Int) ∧ ct t < 256 := fun t ht => by obtain ⟨r, q⟩ := hg t ht; exact ⟨q.2.2.2.2.1, (hct t ht).2⟩
  have hP := env_p (ct := ct) hH hMo (-1)
  have hC := env_c (ct := ct) hL hX hH hMo hct h5 (up := -1) (by decide)
  have hsn : ∀ t, eSn (envF M nv na (-1) ct) t = prAt M nv t := fun t => by show seen M nv na (-1) t = _; unfold seen; rw [if_pos (Or.inl rfl)]
  have hE1 : (envF M nv na (-1) ct).1 = tx M := rfl
  have hMg : ∀ M1 : Md, (∀ j, j ≤ 35 → M1.1 j = M.1 j) → (∀ k, k ≤ 40 → M1.2 k = M.2 k) → M1.1 39 = -1 → EnM M1 (envF M nv na (-1) ct) := fun M1 a1 a2 a3 => env_m hH hMo hct2 h5 a1 a2 a3 (by decide)
  generalize envF M nv na (-1) ct = E at *
  have tok0 : ∀ t, t < 24 → eSn E t ≠ -1 → 0 < eTl E (eSn E t).toNat ∧ (0 ≤ eTx E (eSn E t).toNat 0 ∧ eTx E (eSn E t).toNat 0 < 14000) ∧ (eTx E (eSn E t).toNat 0 / 1000 = 12 → eTx E (eSn E t).toNat 0 % 1000 < 24) := fun t ht hne => by
    obtain ⟨x1, x2, x3⟩ := hP.1 t ht hne
    have l1 := x2.1.1
    have y := x3 0 (by omega)
    unfold okt at y
    exact ⟨by omega, ⟨y.1, y.2.1⟩, fun z => y.2.2.1 (Or.inr (Or.inr z))⟩
  have nonR : ∀ n t S, (wayF E n t S).1 = -1 ∨ eTx E (eSn E (wayF E n t S).1.toNat).toNat 0 / 1000 ≠ 12 := by
    intro n
    induction n with
    | zero => intro t S; exact Or.inl rfl
    | succ n ih =>
      intro t S
      unfold wayF
      by_cases c : eSn E t = -1
      · rw [if_pos c]; exact Or.inl rfl
      · rw [if_neg c]
        by_cases c2 : eTx E (eSn E t).toNat 0 / 1000 = 12
        · rw [if_pos c2]; exact ih _ _
        · rw [if_neg c2]
          refine Or.inr ?_
          show eTx E (eSn E ((t : Int)).toNat).toNat 0 / 1000 ≠ 12
          rw [Int.toNat_natCast]
          exact c2
  have wl : ∀ t S, S < 16777216 → t < 24 → _ := fun t S hS ht => wayF_lt E 5 t S hS ht (fun t ht hne z => by have := (tok0 t ht hne).2.2 z; omega)
  refine ⟨E, fun t => (wayF E 5 t 0).1, VA, PA, LE, AA, nv, np, na, hH, hsn, hE1, fun t ht => ⟨?_, ?_, ?_⟩, fun C1 f1 t ht => ?_, fun M1 o1 t ht => ?_⟩
  · rcases (wl t 0 (by decide) ht).2 with z | z
    · exact Or.inl z
    · exact Or.inr ⟨z.1, z.2.1⟩
  · intro e
    have e' : (wayF E 5 t 0).1 = (t : Int) := e
    rcases (wl t 0 (by decide) ht).2 with z | z
    · omega
    · have z3 := z.2.2
      have n3 := nonR 5 t 0
      rw [e', Int.toNat_natCast] at z3 n3
      exact ⟨z3, n3.elim (fun y => by omega) id⟩
  · intro ⟨z1, z2⟩
    show (wayF E 5 t 0).1 = (t : Int)
    unfold wayF
    rw [if_neg z1, if_neg z2]
  · have hL1 := hL.keep (f1.mono (fun _ _ _ _ z => z.mu))
    have up : ∀ C2, Fp (sWy b) C C2 → Fp (sX b (DyC b C)) C C2 := fun C2 f2 => f2.mono (fun q k a _ z => by unfold sWy at z; unfold sX; omega)
    obtain ⟨C2, e2, f2, s2, l2, _⟩ := X1_goalOf_ (E := E) (VA := VA) (up := -1) hL1 (fun C2 f2 t ht => (hC C2 (up C2 (f1.tr f2))).2.1 t ht) (fun t ht hne => ⟨(hC C1 (up C1 f1)).1 t ht hne, (tok0 t ht hne).1, (hP.1 t ht hne).2.2⟩) ht
    exact ⟨C2, e2, f1.tr f2, s2, l2⟩
  · obtain ⟨a1, a2, a3, a4⟩ := o1
    have b1 : ∀ j, j ≠ 39 → (mSet M1 39 (-1)).1 j = M1.1 j := fun j hj => mS2 _ _ hj
    have b2 : (mSet M1 39 (-1)).2 = M.2 := a2
    have b3 : (mSet M1 39 (-1)).1 39 = -1 := mS1 _ _ _
    have hEM := hMg (mSet M1 39 (-1)) (fun j hj => (b1 j (by omega)).trans (a1 j (by omega) (by omega) (by omega))) (fun k _ => by rw [b2]) b3
    obtain ⟨S, hS⟩ : ∃ S : Nat, M1.1 68 = (S : Int) := ⟨(M1.1 68).toNat, by omega⟩
    have ex : ∀ M2, MO (fun k => k = 68) (fun _ => False) (mSet M1 39 (-1)) M2 → ExO (mSet M1 39 (-1)) M2 := fun M2 o => ⟨fun j hj => o.1 j (by omega), fun k _ => o.2 k (fun z => z)⟩
    obtain ⟨M2, e2, o2, s2⟩ := X12_wayOf_ (M := mSet M1 39 (-1)) (E := E) (fun M2 o t ht => (hEM M2 (ex M2 o)).1 t ht) (fun t ht hne => by
      obtain ⟨y1, y2, y3, y4⟩ := (hEM _ (ExO.rf _)).2.2.2 t ht hne
      obtain ⟨z1, z2, z3⟩ := tok0 t ht hne
      have := y4 0 z1
      exact ⟨y1, y2, this, z2, z3⟩) ht ((b1 68 (by decide)).trans hS) (by omega)
    have wo := wayF_or E S 5 t 0
    rw [Nat.or_zero] at wo
    have wf := (wl t S (by omega) ht).1
    refine ⟨M2, ?_, ⟨fun j x1 x2 x3 => (o2.1 j x1).trans ((b1 j x2).trans (a1 j x1 x2 x3)), ?_, ?_, ?_⟩, (o2.1 36 (by decide)).trans (b1 36 (by decide))⟩
    · unfold fX12_leadsTo
      rw [bnd_eq, cal_of e2, wo]
    · funext k
      rw [o2.2 k (fun z => z), b2]
    · rw [s2]; omega
    · rw [s2]; omega
theorem sWy_qt : Qt b (sWy b) := fun q k a z _ => Or.inl z.2.2
theorem sWy_hs : HS b C (sWy b) := fun q k a _ z hb => by have := z.2.2; omega
theorem RLy.wy (h : RLy b C) (f : Fp (sWy b) C C') : RLy b C' := h.low f (fun q k a _ z => z.mu) (by unfold sWy; omega) (by unfold sWy; omega) (by unfold sWy; omega) (by unfold sWy; omega) (fun _ => by unfold sWy; omega) (by unfold sWy; omega) (by unfold sWy; omega) (fun _ => by unfold sWy; omega) (by unfold sWy; omega) (by unfold sWy; omega) (fun _ _ => by unfold sWy; omega) (fun _ _ _ => by unfold sWy; omega)
theorem sc36w (h : RR b kc M C) (x : Int) : ScW M (mSet M 36 x) := ⟨fun j _ _ hj => mS2 M _ hj, rfl, by rw [mS2 M _ (by decide)]; exact h.2.2.1.2.2.2.2.1, by rw [mS2 M _ (by decide)]; exact h.2.2.1.2.2.2.2.2⟩
theorem call_leads (h : RR b kc M C) (hk : kc ≤ 10000) {x : Int} (hx : I32 x) : CallE b kc C cd2 (fX11_leads b x C) (fX12_leads x M) := by
  have hL := h.1.1
  rcases X12_asksFor_ (M := M) hx with ⟨c, e⟩ | ⟨c, e⟩
  · obtain ⟨t, rfl⟩ : ∃ t : Nat, x = (t : Int) := ⟨x.toNat, by omega⟩
    have ht : t < 24 := by omega
    obtain ⟨E, G, VA, PA, LE, AA, nv, np, na, hH, hs, hE, hG, gC, gM⟩ := h.ways hk
    obtain ⟨C2, e2, f2, s2, l2⟩ := gC C (Fp.rf hL.W) t ht
    obtain ⟨M2, e3, o3, z3⟩ := gM _ (sc36w h 0) t ht
    refine ⟨M2, C2, G t, ?_, h.quiet f2 sWy_qt sWy_hs (h.1.wy f2) o3.sc, RmL.of hL.sz f2 (fun _ _ => by unfold sWy; omega) (by omega) (by omega), Or.inl ⟨?_, z3.trans (mS1 _ _ _)⟩⟩
    · unfold fX12_leads
      rw [cal_of e, bnd_eq, if_neg (by decide), cal_of e3]
    · unfold fX11_leads
      rw [if_pos hL.o, calx_of (X11_titleOf_in hL ht), if_pos hL.o, bnd_eq, hL.r0, drf_some, if_pos hL.oe, cal_of e2]
  · refine h.exc (e := 2) (M' := mSet M 36 1) ?_ ?_ (sc36 M 1) (mS1 _ _ _) (by decide)
    · unfold fX11_leads
      rw [if_pos hL.o, calx_ofx (X11_titleOf_out hL hx c)]
    · unfold fX12_leads
      rw [cal_of e, bnd_eq, if_pos (by decide)]
end LDS

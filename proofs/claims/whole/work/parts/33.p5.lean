/-! pairs: hour, cargo, joins, undo -/
def rq_pas (s : Nat → Nat) : Nat → Nat := fun k => if k = 4 then s 4 + 1 else if k = 5 then (if s 5 = 1 ∧ s 2 + s 7 ≤ s 4 + 1 then 2 else s 5) else s k
def rq_up (s : Nat → Nat) (j v : Nat) : Nat → Nat := fun k => if k = j then v else s k
section RQH
variable {sc : Nat × (Nat → Int32)} {d : Nat} {I I1 I2 : sx_I} {J J1 J2 : sx_J} {s L s1 L1 : Nat → Nat} {P P2 : Nat → Nat → Nat → Prop} {a q r o b u a1 q1 h l A D h1 v j : Nat} {st st1 : Int32} {f f1 : Nat → (Nat → Nat) × (Nat → Nat)}
theorem rq_R.u4 (hR : rq_R I J r s h l A D st L) : rq_R (sx_uI I 5 r 4 (nI h1)) J r s h1 l A D st L := by
  have e : ∀ a z, ¬ (a = 5 ∧ z = 4) → sx_uI I 5 r 4 (nI h1) a r z = I a r z := fun a z hz => if_neg (fun q => hz ⟨q.1, q.2.2⟩)
  obtain ⟨r0, r1, r2, r3, r4, r5, r6, r7, r8, r9, r10⟩ := hR
  exact ⟨(e 5 0 (by omega)).trans r0, (e 5 1 (by omega)).trans r1, (e 5 2 (by omega)).trans r2, (e 5 3 (by omega)).trans r3, if_pos ⟨rfl, rfl, rfl⟩, (e 5 5 (by omega)).trans r5, (e 5 6 (by omega)).trans r6, (e 5 7 (by omega)).trans r7, (e 5 8 (by omega)).trans r8, (e 5 9 (by omega)).trans r9, fun p hp => ⟨(e 20 p (by omega)).trans (r10 p hp).1, (e 21 p (by omega)).trans (r10 p hp).2.1, (r10 p hp).2.2⟩⟩
theorem rq_R.u5 (hR : rq_R I J r s h l A D st L) : rq_R (sx_uI I 5 r 5 (nI h1)) J r s h h1 A D st L := by
  have e : ∀ a z, ¬ (a = 5 ∧ z = 5) → sx_uI I 5 r 5 (nI h1) a r z = I a r z := fun a z hz => if_neg (fun q => hz ⟨q.1, q.2.2⟩)
  obtain ⟨r0, r1, r2, r3, r4, r5, r6, r7, r8, r9, r10⟩ := hR
  exact ⟨(e 5 0 (by omega)).trans r0, (e 5 1 (by omega)).trans r1, (e 5 2 (by omega)).trans r2, (e 5 3 (by omega)).trans r3, (e 5 4 (by omega)).trans r4, if_pos ⟨rfl, rfl, rfl⟩, (e 5 6 (by omega)).trans r6, (e 5 7 (by omega)).trans r7, (e 5 8 (by omega)).trans r8, (e 5 9 (by omega)).trans r9, fun p hp => ⟨(e 20 p (by omega)).trans (r10 p hp).1, (e 21 p (by omega)).trans (r10 p hp).2.1, (r10 p hp).2.2⟩⟩
theorem rq_R.u7 (hR : rq_R I J r s h l A D st L) : rq_R (sx_uI I 5 r 7 (nI h1)) J r s h l h1 D st L := by
  have e : ∀ a z, ¬ (a = 5 ∧ z = 7) → sx_uI I 5 r 7 (nI h1) a r z = I a r z := fun a z hz => if_neg (fun q => hz ⟨q.1, q.2.2⟩)
  obtain ⟨r0, r1, r2, r3, r4, r5, r6, r7, r8, r9, r10⟩ := hR
  exact ⟨(e 5 0 (by omega)).trans r0, (e 5 1 (by omega)).trans r1, (e 5 2 (by omega)).trans r2, (e 5 3 (by omega)).trans r3, (e 5 4 (by omega)).trans r4, (e 5 5 (by omega)).trans r5, (e 5 6 (by omega)).trans r6, if_pos ⟨rfl, rfl, rfl⟩, (e 5 8 (by omega)).trans r8, (e 5 9 (by omega)).trans r9, fun p hp => ⟨(e 20 p (by omega)).trans (r10 p hp).1, (e 21 p (by omega)).trans (r10 p hp).2.1, (r10 p hp).2.2⟩⟩
theorem rq_R.u8 (hR : rq_R I J r s h l A D st L) : rq_R (sx_uI I 5 r 8 (nI h1)) J r s h l A h1 st L := by
  have e : ∀ a z, ¬ (a = 5 ∧ z = 8) → sx_uI I 5 r 8 (nI h1) a r z = I a r z := fun a z hz => if_neg (fun q => hz ⟨q.1, q.2.2⟩)
  obtain ⟨r0, r1, r2, r3, r4, r5, r6, r7, r8, r9, r10⟩ := hR
  exact ⟨(e 5 0 (by omega)).trans r0, (e 5 1 (by omega)).trans r1, (e 5 2 (by omega)).trans r2, (e 5 3 (by omega)).trans r3, (e 5 4 (by omega)).trans r4, (e 5 5 (by omega)).trans r5, (e 5 6 (by omega)).trans r6, (e 5 7 (by omega)).trans r7, if_pos ⟨rfl, rfl, rfl⟩, (e 5 9 (by omega)).trans r9, fun p hp => ⟨(e 20 p (by omega)).trans (r10 p hp).1, (e 21 p (by omega)).trans (r10 p hp).2.1, (r10 p hp).2.2⟩⟩
theorem rq_R.u9 (hR : rq_R I J r s h l A D st L) : rq_R (sx_uI I 5 r 9 st1) J r s h l A D st1 L := by
  have e : ∀ a z, ¬ (a = 5 ∧ z = 9) → sx_uI I 5 r 9 st1 a r z = I a r z := fun a z hz => if_neg (fun q => hz ⟨q.1, q.2.2⟩)
  obtain ⟨r0, r1, r2, r3, r4, r5, r6, r7, r8, r9, r10⟩ := hR
  exact ⟨(e 5 0 (by omega)).trans r0, (e 5 1 (by omega)).trans r1, (e 5 2 (by omega)).trans r2, (e 5 3 (by omega)).trans r3, (e 5 4 (by omega)).trans r4, (e 5 5 (by omega)).trans r5, (e 5 6 (by omega)).trans r6, (e 5 7 (by omega)).trans r7, (e 5 8 (by omega)).trans r8, if_pos ⟨rfl, rfl, rfl⟩, fun p hp => ⟨(e 20 p (by omega)).trans (r10 p hp).1, (e 21 p (by omega)).trans (r10 p hp).2.1, (r10 p hp).2.2⟩⟩
theorem rq_R.u6 (hR : rq_R I J r s h l A D st L) : rq_R (sx_uI I 5 r 6 (nI v)) J r (rq_up s 7 v) h l A D st L := by
  have e : ∀ a z, ¬ (a = 5 ∧ z = 6) → sx_uI I 5 r 6 (nI v) a r z = I a r z := fun a z hz => if_neg (fun q => hz ⟨q.1, q.2.2⟩)
  have k : ∀ j, j ≠ 7 → rq_up s 7 v j = s j := fun j hj => if_neg hj
  obtain ⟨r0, r1, r2, r3, r4, r5, r6, r7, r8, r9, r10⟩ := hR
  refine ⟨(e 5 0 (by omega)).trans r0, (e 5 1 (by omega)).trans r1, (e 5 2 (by omega)).trans r2, (e 5 3 (by omega)).trans r3, (e 5 4 (by omega)).trans r4, (e 5 5 (by omega)).trans r5, if_pos ⟨rfl, rfl, rfl⟩, (e 5 7 (by omega)).trans r7, (e 5 8 (by omega)).trans r8, (e 5 9 (by omega)).trans r9, fun p hp => ?_⟩
  rw [k _ (by omega), k _ (by omega)]
  exact ⟨(e 20 p (by omega)).trans (r10 p hp).1, (e 21 p (by omega)).trans (r10 p hp).2.1, (r10 p hp).2.2⟩
theorem rq_R.cg (hR : rq_R I J r s h l A D st L) (e : ∀ k, k ≤ 3 ∨ k = 7 → s1 k = s k) (e2 : ∀ p, p < s 0 → s1 (8 + 4 * p) = s (8 + 4 * p) ∧ s1 (9 + 4 * p) = s (9 + 4 * p)) : rq_R I J r s1 h l A D st L := by
  obtain ⟨r0, r1, r2, r3, r4, r5, r6, r7, r8, r9, r10⟩ := hR
  have e0 := e 0 (by omega)
  refine ⟨by rw [e0]; exact r0, by rw [e 1 (by omega)]; exact r1, by rw [e 2 (by omega)]; exact r2, by rw [e 3 (by omega)]; exact r3, r4, r5, by rw [e 7 (by omega)]; exact r6, r7, r8, r9, fun p hp => ?_⟩
  rw [e0] at hp
  rw [(e2 p hp).1, (e2 p hp).2]
  exact r10 p hp
theorem rq_C.of (hR : rq_R I J r s h l A D st L) (e4 : h = s 4) (e6 : l = s 6) (eA : A = rq_A s) (eD : D = rq_D s) (eS : st = rq_st s) : rq_C I J r s L := by
  subst e4; subst e6; subst eA; subst eD; subst eS; exact hR
theorem rq_A_cg (e0 : s1 0 = s 0) (e : ∀ p, p < s 0 → s1 (10 + 4 * p) = s (10 + 4 * p)) : rq_A s1 = rq_A s := by
  unfold rq_A
  rw [e0]
  exact rq_S_congr _ (fun p hp => by rw [e p hp])
theorem rq_D_cg (e0 : s1 0 = s 0) (eA : rq_A s1 = rq_A s) (e8 : ∀ p, p < s 0 → s1 (8 + 4 * p) = s (8 + 4 * p)) (e11 : ∀ p, p < s 0 → s1 (11 + 4 * p) = s (11 + 4 * p)) : rq_D s1 = rq_D s := by
  unfold rq_D rq_Dr
  rw [e0, eA]
  exact rq_S_congr _ (fun p hp => by rw [e8 p hp, e11 p hp])
theorem rq_Q.uI (h : rq_Q I J 3 0 0 0 s L) : rq_Q (sx_uI I 16 3 j (nI v)) J 3 0 0 0 (rq_up s j v) L := by
  refine ⟨fun k hk => ?_, h.2⟩
  have hq := h.qi k hk
  rw [Nat.zero_add, rq_up]
  by_cases c : k = j
  · rw [if_pos c]; exact if_pos ⟨rfl, rfl, c⟩
  · rw [if_neg c]; exact (if_neg (fun q => c q.2.2)).trans hq
theorem rq_Q.cg (h : rq_Q I J a o b u s L) (e : ∀ k, k < 32 → s1 k = s k) : rq_Q I J a o b u s1 L := ⟨fun k hk => by rw [e k hk]; exact h.1 k hk, h.2⟩
theorem rq_pas_ne {k : Nat} (h4 : k ≠ 4) (h5 : k ≠ 5) : rq_pas s k = s k := by rw [rq_pas, if_neg h4, if_neg h5]
theorem rq_up_ne {k : Nat} (h : k ≠ j) : rq_up s j v k = s k := if_neg h
theorem rq_W.pas (hW : rq_W s) (hlt : s 4 < s 2 + s 7) : rq_W (rq_pas s) := by
  obtain ⟨w0, w1, w2, w3, w6, w7, w4, w5, w9, w10⟩ := hW
  refine ⟨w0, w1, w2, w3, w6, w7, ?_, ?_, fun h0 => ?_, fun p hp => ?_⟩
  · show s 4 + 1 ≤ s 2 + s 7; omega
  · show (if s 5 = 1 ∧ s 2 + s 7 ≤ s 4 + 1 then 2 else s 5) ≤ 2; split <;> omega
  · have w := w9 h0
    show ¬ (if s 5 = 1 ∧ s 2 + s 7 ≤ s 4 + 1 then 2 else s 5) = 0 → ((if s 5 = 1 ∧ s 2 + s 7 ≤ s 4 + 1 then 2 else s 5) = 1 ↔ s 4 + 1 < s 2 + s 7)
    split <;> omega
  · rw [rq_pas_ne (by omega) (by omega), rq_pas_ne (by omega) (by omega), rq_pas_ne (by omega) (by omega), rq_pas_ne (by omega) (by omega)]
    exact w10 p hp
theorem rq_pas_5 : rq_pas s 5 = 0 ↔ s 5 = 0 := by
  show (if s 5 = 1 ∧ s 2 + s 7 ≤ s 4 + 1 then 2 else s 5) = 0 ↔ _
  split <;> omega
theorem rq_V.pas (hV : rq_V s L) : rq_V (rq_pas s) L := by
  refine ⟨hV.1, fun p hp => ?_, hV.2.2.1, fun c p hp hs => hV.2.2.2 (fun q => c (rq_pas_5.mpr q)) p hp (by rw [rq_pas_ne (by omega) (by omega)] at hs; exact hs)⟩
  have e := hV.2.1 p hp
  show L p ≤ 18 * 60 ^ s 6 * (if rq_pas s 5 = 0 then 20 else 1)
  simp only [rq_pas_5]; exact e
theorem rq_A_pas : rq_A (rq_pas s) = rq_A s := rq_A_cg rfl (fun p _ => rq_pas_ne (by omega) (by omega))
theorem rq_D_pas : rq_D (rq_pas s) = rq_D s := rq_D_cg rfl rq_A_pas (fun p _ => rq_pas_ne (by omega) (by omega)) (fun p _ => rq_pas_ne (by omega) (by omega))
theorem rq_st_pas : rq_st (rq_pas s) = rq_st s := by
  show (if s 0 = 0 then (0 : Int32) else if rq_pas s 5 = 0 then 1 else 0) = _
  simp only [rq_pas_5]; rfl
/-- an hour more, in the class -/
theorem c_pas (hC : rq_C I J 0 s L) : rq_C (sx_uI I 5 0 4 (nI (s 4 + 1))) J 0 (rq_pas s) L := by
  have hR := (rq_R.u4 (h1 := s 4 + 1) hC).cg (s1 := rq_pas s) (fun k hk => rq_pas_ne (by omega) (by omega)) (fun p _ => ⟨rq_pas_ne (by omega) (by omega), rq_pas_ne (by omega) (by omega)⟩)
  exact .of hR rfl rfl rq_A_pas.symm rq_D_pas.symm rq_st_pas.symm
/-- an hour more, in the reference -/
theorem m_passes (hQ : rq_Q I J 3 0 0 0 s L) (b2 : s 2 + s 7 < 2 ^ 31) (b4 : s 4 + 1 < 2 ^ 31) (b5 : s 5 < 2 ^ 31) : rq_Q (i_X9_passes I J) J 3 0 0 0 (rq_pas s) L := by
  have h4 := hQ.qi 4 (by omega)
  have hQ1 : rq_Q (sx_uI I 16 3 4 (nI (s 4 + 1))) J 3 0 0 0 (rq_up s 4 (s 4 + 1)) L := hQ.uI
  have hq1 := hQ1.qi
  have e5 : (sx_uI I 16 3 4 (nI (s 4 + 1))) 16 3 5 = nI (s 5) := hq1 5 (by omega)
  have e4 : (sx_uI I 16 3 4 (nI (s 4 + 1))) 16 3 4 = nI (s 4 + 1) := hq1 4 (by omega)
  have es : v_X9_sinksBehind (sx_uI I 16 3 4 (nI (s 4 + 1))) J = nI (s 2 + s 7) := m_sinks (s := rq_up s 4 (s 4 + 1)) hq1
  have ec : (5 : Int32).toNatClampNeg = 5 := by decide
  rw [i_X9_passes, h4, nI_1, e5, e4, es, ec]
  have k1 : nI (s 5) = 1 ↔ s 5 = 1 := nI_eq (b := 1) b5 (by omega)
  have k2 : nI (s 4 + 1) < nI (s 2 + s 7) ↔ s 4 + 1 < s 2 + s 7 := nI_ltI b4 b2
  by_cases c1 : s 5 = 1
  · rw [if_pos (k1.mpr c1)]
    by_cases c2 : s 4 + 1 < s 2 + s 7
    · rw [if_pos (k2.mpr c2)]
      refine (hQ1.uI (j := 5) (v := s 5)).cg (fun k hk => ?_)
      unfold rq_pas rq_up; rw [if_neg (show ¬ (s 5 = 1 ∧ s 2 + s 7 ≤ s 4 + 1) by omega)]; split <;> split <;> first | rfl | omega
    · rw [if_neg (fun q => c2 (k2.mp q))]
      refine (hQ1.uI (j := 5) (v := 2)).cg (fun k hk => ?_)
      unfold rq_pas rq_up; rw [if_pos (show (s 5 = 1 ∧ s 2 + s 7 ≤ s 4 + 1) by omega)]; split <;> split <;> first | rfl | omega
  · rw [if_neg (fun q => c1 (k1.mp q))]
    refine (hQ1.uI (j := 5) (v := s 5)).cg (fun k hk => ?_)
    unfold rq_pas rq_up; rw [if_neg (show ¬ (s 5 = 1 ∧ s 2 + s 7 ≤ s 4 + 1) by omega)]; split <;> split <;> first | rfl | omega
theorem rq_sm.passes : rq_sm rq_nM I J (i_X9_passes I J) J := by
  have k : ∀ z, rq_nM 16 3 z := fun z => Or.inl ⟨rfl, rfl⟩
  unfold i_X9_passes; (repeat' split) <;> exact (rq_sm.uI (k _)).tr (.uI (k _))
theorem rq_C.kp (hC : rq_C I J 0 s L) (e : rq_sm rq_gC I J I1 J1) : rq_C I1 J1 0 s L := hC.sm2 e (fun a k z => by unfold rq_cs at z; unfold rq_scr rq_gC rq_cs; omega)
theorem rq_Q.kp (hQ : rq_Q I J 3 0 0 0 s L) (e : rq_sm rq_gM I J I1 J1) : rq_Q I1 J1 3 0 0 0 s L := hQ.sm2 e (fun k => by unfold rq_scr rq_gM rq_cs; omega) (fun k => by unfold rq_scr rq_gM rq_cs; omega)
theorem rq_Q.oC (hQ : rq_Q I J 3 0 0 0 s L) (e : rq_sm rq_oC I J I1 J1) : rq_Q I1 J1 3 0 0 0 s L := hQ.sm2 e (fun k => by unfold rq_scr rq_oC rq_nC rq_gC rq_cs; omega) (fun k => by unfold rq_scr rq_oC rq_nC rq_gC rq_cs; omega)
theorem rq_C.oM (hC : rq_C I J 0 s L) (e : rq_sm rq_oM I J I1 J1) : rq_C I1 J1 0 s L := hC.sm2 e (fun a k z => by unfold rq_cs at z; unfold rq_scr rq_oM rq_nM rq_gM rq_cs; omega)
theorem rq_hm.oC (h : rq_hm I J a f) (e : rq_sm rq_oC I J I1 J1) : rq_hm I1 J1 a f := h.sm2 e (fun a b k z => by unfold rq_gM at z; unfold rq_oC rq_nC rq_gC rq_cs; omega)
theorem rq_hc.oM (h : rq_hc I J a q f) (e : rq_sm rq_oM I J I1 J1) : rq_hc I1 J1 a q f := h.sm2 e (fun a b k z => by unfold rq_gC rq_cs at z; unfold rq_oM rq_nM rq_gM; omega)
theorem rq_hc.nC (h : rq_hc I J a q f) (e : rq_sm rq_nC I J I1 J1) : rq_hc I1 J1 a q f := h.sm2 e (fun a b k z => by unfold rq_gC rq_cs at z; unfold rq_nC rq_cs; omega)
theorem rq_hm.nM (h : rq_hm I J a f) (e : rq_sm rq_nM I J I1 J1) : rq_hm I1 J1 a f := h.sm2 e (fun a b k z => by unfold rq_gM at z; unfold rq_nM; omega)
theorem rq_Q.sw (hQ : rq_Q I J 3 0 0 0 s L) (e : rq_same I J I1 J1) : rq_Q I1 J1 3 0 0 0 s L := hQ.oC e.sm
theorem rq_hm.sw (h : rq_hm I J a f) (e : rq_same I J I1 J1) : rq_hm I1 J1 a f := h.oC e.sm
theorem rq_sm.nC (e : rq_sm rq_nC I J I1 J1) : rq_sm rq_oC I J I1 J1 := e.mono fun _ _ _ z => Or.inl z
theorem rq_sm.gC (e : rq_sm rq_gC I J I1 J1) : rq_sm rq_oC I J I1 J1 := e.mono fun _ _ _ z => Or.inr z
theorem rq_sm.nM (e : rq_sm rq_nM I J I1 J1) : rq_sm rq_oM I J I1 J1 := e.mono fun _ _ _ z => Or.inl z
theorem rq_sm.gM (e : rq_sm rq_gM I J I1 J1) : rq_sm rq_oM I J I1 J1 := e.mono fun _ _ _ z => Or.inr z
theorem rq_nC5 {k : Nat} : rq_nC 5 0 k := ⟨Or.inl rfl, rfl⟩
theorem rq_nM3 {k : Nat} : rq_nM 16 3 k := Or.inl ⟨rfl, rfl⟩
/-- an act: class, then reference -/
theorem rq_pair.act {c8 c9 : sx_C} {lv8 lv9 : sx_L} {x : sx_V} (h : rq_Rel I J) (hQ : rq_Q I J 3 0 0 0 s L) (g2 : rq_hm I J a f) (hW1 : rq_W s1) (hV1 : rq_V s1 L1) (ha1 : a1 ≤ 24) (hq1 : q1 < 24) (g3 : rq_hp a1 f1) (h8 : ∃ I1 J1, sx_E sc d c8 0 lv8 [] I J (some x, I1, J1) ∧ rq_sm rq_oC I J I1 J1 ∧ rq_C I1 J1 0 s1 L1 ∧ rq_hc I1 J1 a1 q1 f1) (h9 : ∀ I1 J1, rq_Q I1 J1 3 0 0 0 s L → rq_hm I1 J1 a f → ∃ I2 J2, sx_E sc d c9 0 lv9 [] I1 J1 (some x, I2, J2) ∧ rq_sm rq_oM I1 J1 I2 J2 ∧ rq_Q I2 J2 3 0 0 0 s1 L1 ∧ rq_hm I2 J2 a1 f1) : rq_pair sc d c8 c9 lv8 lv9 I J := by
  obtain ⟨I1, J1, k1, k2, k3, k4⟩ := h8
  obtain ⟨I2, J2, m1, m2, m3, m4⟩ := h9 I1 J1 (hQ.oC k2) (g2.oC k2)
  exact ⟨x, I1, J1, I2, J2, k1, m1, h.act ((k2.mono fun _ _ _ z => Or.inl z).tr (m2.mono fun _ _ _ z => Or.inr z)) ⟨s1, L1, k3.oM m2, m3, hW1, hV1⟩ (.mk ha1 hq1 (k4.oM m2) m4 g3)⟩
theorem pr_hour (h : rq_Rel I J) : rq_pair sc (d + 20) cd_X8_hour cd_X9_hour [some (.inr (.inr (8, 0)))] [some (.inr (.inr (9, 0)))] I J := by
  obtain ⟨s, L, hC, hQ, hW, hV⟩ := h.2.2.2.2.1
  obtain ⟨a, q, f, ha, hq, g1, g2, g3⟩ := h.2.2.2.2.2.2.op
  have w := hW.1
  have hin := c_inStorm hC hW
  have hb := hW
  obtain ⟨w0, w1, w2, w3, w6, w7, w4, w5, w9, w10⟩ := hb
  by_cases hst : 0 < s 0 ∧ s 5 = 1
  · rw [if_pos hst] at hin
    have hlt : s 4 < s 2 + s 7 := (w9 hst.1 (by omega)).mp hst.2
    refine .act (x := .inl (nI (s 4 + 1))) h hQ g2 (hW.pas hlt) hV.pas (rq_ka_le ha) (rq_kq_lt (q := q)) (rq_kp g3 hW hV ha) ?_ (fun I1 J1 hQ g2 => ?_)
    · obtain ⟨I1, J1, k1, k2, k3⟩ := e_keepC (sc := sc) (d := d + 18) g1 ha hq hC w
      have hC1 := hC.kp k3
      refine ⟨sx_uI I1 5 0 4 (nI (s 4 + 1)), J1, ee_X8_hour_0 ⟨_, _, _, es_X5_isInStorm.v hin, ee_X8_hour_7 ⟨fun c => absurd c n10, fun _ => ⟨_, _, k1, ee_X8_hour_24 ?_⟩⟩⟩, k3.gC.tr (rq_sm.uI rq_nC5).nC, c_pas hC1, k2.nC (.uI rq_nC5)⟩
      rw [show I1 5 0 4 = nI (s 4) from hC1.2.2.2.2.1, nI_1]
      exact ee_X8_hour_37 rfl
    · have hQ0 := hQ.sw (rq_same.t0 (v := 0))
      have hth : v_X9_isThere (sx_uI I1 9 0 0 0) J1 = 1 := by rw [m_isThere hQ0.qi w, if_neg (by omega)]
      have e5 : (sx_uI I1 9 0 0 0) 16 3 5 = 1 := by rw [hQ0.qi 5 (by omega), hst.2]; rfl
      obtain ⟨I3, J3, k1, k2, k3, _⟩ := e_keepM (sc := sc) (d := d + 19) (g2.sw (rq_same.t0 (v := 0))) ha hQ0
      have hQ4 := m_passes (hQ0.kp k3) (by omega) (by omega) (by omega)
      refine ⟨_, _, ee_X9_hour_0 (ee_X9_hour_5 ⟨_, _, _, es_X9_isThere.v hth, ee_X9_hour_9 ⟨fun c => absurd c n10, fun _ => ⟨fun _ => ⟨_, _, k1, ee_X9_hour_29 ⟨_, _, es_X9_passes, ee_X9_hour_33 ?_⟩⟩, fun c => absurd e5 c⟩⟩⟩), (rq_same.t0.sm.tr k3.gM).tr rq_sm.passes.nM, hQ4, k2.nM .passes⟩
      rw [show i_X9_passes I3 J3 16 3 4 = nI (s 4 + 1) from hQ4.qi 4 (by omega)]
  · rw [if_neg hst] at hin
    have hq0 := hQ.qi.t0 (v := 0)
    refine .rd h (v := .inl (Int32.ofInt (-1000002))) (ee_X8_hour_0 ⟨_, _, _, es_X5_isInStorm.v hin, ee_X8_hour_7 ⟨fun _ => rfl, fun c => absurd rfl c⟩⟩) .rf (I2 := sx_uI I 9 0 0 0) (J2 := J) (ee_X9_hour_0 (ee_X9_hour_5 ⟨_, _, _, es_X9_isThere.v (m_isThere hq0 w), ee_X9_hour_9 ⟨fun _ => rfl, fun c => ⟨fun c5 => ?_, fun _ => rfl⟩⟩⟩)) .t0 rfl
    exfalso
    rw [hq0 5 (by omega)] at c5
    have := (nI_eq (b := 1) (by omega) (by omega)).mp c5
    by_cases h0 : s 0 = 0
    · rw [if_pos h0] at c; exact c rfl
    · exact hst ⟨by omega, this⟩
end RQH

/-! what changes a ship: rings, keeping, taking back -/
def rq_gC (a b k : Nat) : Prop := (rq_cs a ∧ 4 ≤ b ∧ b < 28) ∨ a = 0
def rq_gM (a b k : Nat) : Prop := (a = 16 ∧ b = 5) ∨ (a = 17 ∧ b = 1) ∨ (a = 9 ∧ k = 10)
def rq_nC (a b k : Nat) : Prop := rq_cs a ∧ b = 0
def rq_nM (a b k : Nat) : Prop := (a = 16 ∧ b = 3) ∨ (a = 17 ∧ b = 0)
def rq_oC (a b k : Nat) : Prop := rq_nC a b k ∨ rq_gC a b k
def rq_oM (a b k : Nat) : Prop := rq_nM a b k ∨ rq_gM a b k
def rq_oo (a b k : Nat) : Prop := rq_oC a b k ∨ rq_oM a b k
def rq_hc (I : sx_I) (J : sx_J) (a q : Nat) (f : Nat → (Nat → Nat) × (Nat → Nat)) : Prop := I 0 0 1 = nI q ∧ I 0 0 2 = nI a ∧ ∀ i, i < a → rq_C I J (rq_at q a i) (f i).1 (f i).2
def rq_hm (I : sx_I) (J : sx_J) (a : Nat) (f : Nat → (Nat → Nat) × (Nat → Nat)) : Prop := I 9 0 10 = nI a ∧ ∀ i, i < a → rq_Q I J 5 (32 * i) 1 (6 * i) (f i).1 (f i).2
def rq_hp (a : Nat) (f : Nat → (Nat → Nat) × (Nat → Nat)) : Prop := ∀ i, i < a → rq_W (f i).1 ∧ rq_V (f i).1 (f i).2
def rq_ka (a : Nat) : Nat := if a = 24 then 24 else a + 1
def rq_kq (q : Nat) : Nat := if q + 1 < 24 then q + 1 else 0
def rq_kf (a : Nat) (f : Nat → (Nat → Nat) × (Nat → Nat)) (x : (Nat → Nat) × (Nat → Nat)) (i : Nat) : (Nat → Nat) × (Nat → Nat) := if i + 1 = rq_ka a then x else if a = 24 then f (i + 1) else f i
section RQG
variable {sc : Nat × (Nat → Int32)} {d : Nat} {I I1 I2 : sx_I} {J J1 J2 : sx_J} {s L s1 L1 : Nat → Nat} {P P2 : Nat → Nat → Nat → Prop} {a q r o b u : Nat} {f : Nat → (Nat → Nat) × (Nat → Nat)}
theorem rq_sm.mono (h : rq_sm P I J I1 J1) (m : ∀ a b k, P a b k → P2 a b k) : rq_sm P2 I J I1 J1 := ⟨h.1.mono fun a b k c => ⟨c.1, fun q => c.2 (m a b k q)⟩, h.2.mono fun a b k c => ⟨c.1, fun q => c.2 (m a b k q)⟩⟩
theorem rq_C.sm2 (h : rq_C I J r s L) (e : rq_sm P I J I1 J1) (c : ∀ a k, rq_cs a → ¬ rq_scr a r k ∧ ¬ P a r k) : rq_C I1 J1 r s L := h.fr (fun a k z => e.1 a r k (c a k z)) (fun a k z => e.2 a r k (c a k z))
theorem rq_Q.sm2 (h : rq_Q I J a o b u s L) (e : rq_sm P I J I1 J1) (c : ∀ k, ¬ rq_scr 16 a k ∧ ¬ P 16 a k) (c2 : ∀ k, ¬ rq_scr 17 b k ∧ ¬ P 17 b k) : rq_Q I1 J1 a o b u s L := h.fr (fun k _ => e.1 16 a _ (c _)) (fun k _ => e.2 17 b _ (c2 _))
theorem rq_hc.sm2 (h : rq_hc I J a q f) (e : rq_sm P I J I1 J1) (c : ∀ a b k, rq_gC a b k → ¬ P a b k) : rq_hc I1 J1 a q f := by
  have k : ∀ a b k, rq_gC a b k → ¬ rq_scr a b k := fun a b k z => by unfold rq_gC rq_cs at z; unfold rq_scr rq_cs; omega
  have k0 : ∀ z, rq_gC 0 0 z := fun z => Or.inr rfl
  refine ⟨(e.1 0 0 1 ⟨k _ _ _ (k0 1), c _ _ _ (k0 1)⟩).trans h.1, (e.1 0 0 2 ⟨k _ _ _ (k0 2), c _ _ _ (k0 2)⟩).trans h.2.1, fun i hi => (h.2.2 i hi).sm2 e (fun x z w => ?_)⟩
  have kk : rq_gC x (rq_at q a i) z := Or.inl ⟨w, rq_at_b q a i⟩
  exact ⟨k _ _ _ kk, c _ _ _ kk⟩
theorem rq_hm.sm2 (h : rq_hm I J a f) (e : rq_sm P I J I1 J1) (c : ∀ a b k, rq_gM a b k → ¬ P a b k) : rq_hm I1 J1 a f := by
  have k : ∀ a b k, rq_gM a b k → ¬ rq_scr a b k := fun a b k z => by unfold rq_gM at z; unfold rq_scr rq_cs; omega
  have k0 : rq_gM 9 0 10 := Or.inr (Or.inr ⟨rfl, rfl⟩)
  have k1 : ∀ z, rq_gM 16 5 z := fun z => Or.inl ⟨rfl, rfl⟩
  have k2 : ∀ z, rq_gM 17 1 z := fun z => Or.inr (Or.inl ⟨rfl, rfl⟩)
  exact ⟨(e.1 9 0 10 ⟨k _ _ _ k0, c _ _ _ k0⟩).trans h.1, fun i hi => (h.2 i hi).sm2 e (fun z => ⟨k _ _ _ (k1 z), c _ _ _ (k1 z)⟩) (fun z => ⟨k _ _ _ (k2 z), c _ _ _ (k2 z)⟩)⟩
theorem rq_ring.op (h : rq_ring I J) : ∃ a q f, a ≤ 24 ∧ q < 24 ∧ rq_hc I J a q f ∧ rq_hm I J a f ∧ rq_hp a f := by
  obtain ⟨a, q, ha, hq, h1, h2, h3, h4⟩ := h
  have h5 : ∀ i, ∃ p : (Nat → Nat) × (Nat → Nat), i < a → rq_two I J (rq_at q a i) 5 (32 * i) 1 (6 * i) p.1 p.2 := fun i => by
    by_cases hi : i < a
    · obtain ⟨s, L, k⟩ := h4 i hi; exact ⟨(s, L), fun _ => k⟩
    · exact ⟨(fun _ => 0, fun _ => 0), fun c => absurd c hi⟩
  obtain ⟨f, hf⟩ := Classical.axiomOfChoice h5
  exact ⟨a, q, f, ha, hq, ⟨h1, h2, fun i hi => (hf i hi).1⟩, ⟨h3, fun i hi => (hf i hi).2.1⟩, fun i hi => (hf i hi).2.2⟩
theorem rq_ring.mk (ha : a ≤ 24) (hq : q < 24) (h1 : rq_hc I J a q f) (h2 : rq_hm I J a f) (h3 : rq_hp a f) : rq_ring I J := ⟨a, q, ha, hq, h1.1, h1.2.1, h2.1, fun i hi => ⟨(f i).1, (f i).2, h1.2.2 i hi, h2.2 i hi, (h3 i hi).1, (h3 i hi).2⟩⟩
theorem rq_ka_le (h : a ≤ 24) : rq_ka a ≤ 24 := by unfold rq_ka; split <;> omega
theorem rq_kq_lt : rq_kq q < 24 := by unfold rq_kq; split <;> omega
theorem rq_kp (h : rq_hp a f) (hW : rq_W s) (hV : rq_V s L) (ha : a ≤ 24) : rq_hp (rq_ka a) (rq_kf a f (s, L)) := by
  intro i hi
  unfold rq_kf
  by_cases c : i + 1 = rq_ka a
  · rw [if_pos c]; exact ⟨hW, hV⟩
  · rw [if_neg c]
    unfold rq_ka at hi c
    by_cases c2 : a = 24
    · rw [if_pos c2] at hi c ⊢; exact h _ (by omega)
    · rw [if_neg c2] at hi c ⊢; exact h _ (by omega)
theorem e_keepC (hg : rq_hc I J a q f) (ha : a ≤ 24) (hq : q < 24) (hC : rq_C I J 0 s L) (hn : s 0 ≤ 6) : ∃ I1 J1, sx_E sc (d + 1) cd_X0_keep 0 [some (.inr (.inr (0, 0))), some (.inr (.inr (5, 0)))] [] I J (none, I1, J1) ∧ rq_hc I1 J1 (rq_ka a) (rq_kq q) (rq_kf a f (s, L)) ∧ rq_sm rq_gC I J I1 J1 := by
  have h1 := hg.1
  have h2 := hg.2.1
  have eb : ∀ z, i_X5_becomes I J (q + 4) 0 0 0 z = I 0 0 z := fun z => rfl
  have hE := es_X0_keep (sc := sc) (d := d) (r1 := 0) (I := I) (J := J) (fun _ _ => by rw [h1]; exact sx_in_nI hq (by omega)) (fun _ _ => by omega) (fun _ _ => hC.st)
  have eI : i_X0_keep I J 0 = sx_uI (sx_uI (i_X5_becomes I J (q + 4) 0) 0 0 1 (nI (rq_kq q))) 0 0 2 (nI (rq_ka a)) := by
    have e3 : ∀ v, (sx_uI (i_X5_becomes I J (q + 4) 0) 0 0 1 v) 0 0 2 = nI a := fun v => (eb 2).trans h2
    have e4 : (if (24 : Int32) < nI a + 1 then (24 : Int32) else nI a + 1) = nI (rq_ka a) := by
      rw [nI_1, rq_ka]
      by_cases c : a = 24
      · rw [if_pos c, if_pos (show (24 : Int32) < nI (a + 1) from nI_lt (a := 24) (by omega) (by omega))]; rfl
      · rw [if_neg c, if_neg (show ¬ (24 : Int32) < nI (a + 1) from nI_nlt (a := 24) (by omega) (by omega))]
    rw [i_X0_keep, h1, if_neg (nI_pos (by omega)), if_pos (show nI q < (24 : Int32) from nI_lt (b := 24) hq (by omega)), nI_clamp (by omega), eb 1, h1, e3, e3, e4, nI_1, rq_kq]
    by_cases c : q + 1 < 24
    · rw [if_pos c, if_neg (show ¬ (24 : Int32) ≤ nI (q + 1) from nI_ge (b := 24) c (by omega))]
    · rw [if_neg c, if_pos (show (24 : Int32) ≤ nI (q + 1) from nI_le (a := 24) (by omega) (by omega))]; rfl
  have eJ : j_X0_keep I J 0 = j_X5_becomes I J (q + 4) 0 := by
    rw [j_X0_keep, h1, if_neg (nI_pos (by omega)), if_pos (show nI q < (24 : Int32) from nI_lt (b := 24) hq (by omega)), nI_clamp (by omega)]
  rw [eI, eJ] at hE
  refine ⟨_, _, hE, ⟨rfl, rfl, fun i hi => ?_⟩, ⟨fun x y z c => ?_, fun x y z c => ?_⟩⟩
  · have hb : rq_C (i_X5_becomes I J (q + 4) 0) (j_X5_becomes I J (q + 4) 0) (q + 4) s L := c_becomes hC hn
    have fr : ∀ {r s L}, rq_C (i_X5_becomes I J (q + 4) 0) (j_X5_becomes I J (q + 4) 0) r s L → rq_C (sx_uI (sx_uI (i_X5_becomes I J (q + 4) 0) 0 0 1 (nI (rq_kq q))) 0 0 2 (nI (rq_ka a))) (j_X5_becomes I J (q + 4) 0) r s L := fun hc => hc.fr (fun x k cx => by
      have : x ≠ 0 := by unfold rq_cs at cx; omega
      exact (if_neg (fun w => this w.1)).trans (if_neg (fun w => this w.1))) (fun _ _ _ => rfl)
    have nb : ∀ {r s L}, r ≠ q + 4 → rq_C I J r s L → rq_C (i_X5_becomes I J (q + 4) 0) (j_X5_becomes I J (q + 4) 0) r s L := fun hr hc => hc.fr (fun x k cx => if_neg (fun w => hr w.1)) (fun x k cx => if_neg (fun w => hr w.2.1))
    refine fr ?_
    unfold rq_kf
    by_cases c : i + 1 = rq_ka a
    · rw [if_pos c]
      have e : rq_at (rq_kq q) (rq_ka a) i = q + 4 := by unfold rq_at rq_kq; unfold rq_ka at c ⊢; split at c <;> split <;> omega
      rw [e]; exact hb
    · rw [if_neg c]
      by_cases c2 : a = 24
      · rw [if_pos c2]
        have e : rq_at (rq_kq q) (rq_ka a) i = rq_at q a (i + 1) := by unfold rq_at rq_kq rq_ka; rw [if_pos c2]; split <;> omega
        have e2 : rq_at q a (i + 1) ≠ q + 4 := by unfold rq_ka at hi c; rw [if_pos c2] at hi c; unfold rq_at; omega
        rw [e]; exact nb e2 (hg.2.2 _ (by unfold rq_ka at hi c; rw [if_pos c2] at hi c; omega))
      · rw [if_neg c2]
        have e : rq_at (rq_kq q) (rq_ka a) i = rq_at q a i := by unfold rq_ka at hi c ⊢; rw [if_neg c2] at hi c ⊢; unfold rq_at rq_kq; split <;> omega
        have e2 : rq_at q a i ≠ q + 4 := by unfold rq_ka at hi c; rw [if_neg c2] at hi c; unfold rq_at; omega
        rw [e]; exact nb e2 (hg.2.2 _ (by unfold rq_ka at hi c; rw [if_neg c2] at hi c; omega))
  · have c2 := c.2
    unfold rq_gC rq_cs at c2
    exact (if_neg (by omega)).trans ((if_neg (by omega)).trans (if_neg (by omega)))
  · have c2 := c.2
    unfold rq_gC rq_cs at c2
    exact if_neg (by omega)
theorem e_keepM (hg : rq_hm I J a f) (ha : a ≤ 24) (hQ : rq_Q I J 3 0 0 0 s L) : ∃ I1 J1, sx_E sc d cd_X9_keep 0 [some (.inr (.inr (9, 0))), none] [] I J (none, I1, J1) ∧ rq_hm I1 J1 (rq_ka a) (rq_kf a f (s, L)) ∧ rq_sm rq_gM I J I1 J1 ∧ ∀ k, J1 17 3 k = J 17 3 k := by
  have h1 := hg.1
  refine ⟨_, _, es_X9_keep ⟨a, ha, h1⟩, ?_⟩
  rw [i_X9_keep, j_X9_keep]
  have e0 := hQ.qi
  have e1 := hQ.lj
  by_cases c : a = 24
  · have hc : I 9 0 10 = 24 := by rw [h1, c]; rfl
    rw [if_pos hc, if_pos hc, i_keepA, j_keepA, rq_ka, if_pos c]
    refine ⟨⟨rfl, fun i hi => ?_⟩, ⟨fun x y z c => ?_, fun x y z c => ?_⟩, fun k => (if_neg (by omega)).trans (if_neg (by omega))⟩
    · rw [rq_kf, rq_ka, if_pos c, if_pos c]
      by_cases c3 : i + 1 = 24
      · rw [if_pos c3]
        obtain rfl : i = 23 := by omega
        refine ⟨fun k hk => ?_, fun k hk => ?_⟩
        · refine (if_neg (by omega)).trans ((if_pos (by omega)).trans ?_)
          refine (if_neg (by omega)).trans ((if_neg (by omega)).trans ?_)
          rw [show 0 + (32 * 23 + k - 32 * 23) = k by omega]; exact e0 k hk
        · refine (if_pos (by omega)).trans ((if_neg (by omega)).trans ?_)
          rw [show 0 + (6 * 23 + k - 6 * 23) = k by omega]; exact e1 k hk
      · rw [if_neg c3]
        have hq := hg.2 (i + 1) (by omega)
        refine ⟨fun k hk => ?_, fun k hk => ?_⟩
        · refine (if_neg (by omega)).trans ((if_neg (by omega)).trans ?_)
          refine (if_neg (by omega)).trans ((if_pos (by omega)).trans ?_)
          rw [show 32 + (32 * i + k - 0) = 32 * (i + 1) + k by omega]; exact hq.1 k hk
        · refine (if_neg (by omega)).trans ((if_pos (by omega)).trans ?_)
          rw [show 6 + (6 * i + k - 0) = 6 * (i + 1) + k by omega]; exact hq.2 k hk
    · have c2 := c.2
      unfold rq_gM at c2
      exact (if_neg (by omega)).trans ((if_neg (by omega)).trans ((if_neg (by omega)).trans (if_neg (by omega))))
    · have c2 := c.2
      unfold rq_gM at c2
      exact (if_neg (by omega)).trans (if_neg (by omega))
  · have hc : ¬ I 9 0 10 = 24 := by rw [h1]; exact fun w => c ((nI_eq (b := 24) (by omega) (by omega)).mp w)
    rw [if_neg hc, if_neg hc, h1, nI_clamp (by omega), i_keepA, j_keepA, rq_ka, if_neg c]
    refine ⟨⟨rfl, fun i hi => ?_⟩, ⟨fun x y z c => ?_, fun x y z c => ?_⟩, fun k => if_neg (by omega)⟩
    · rw [rq_kf, rq_ka, if_neg c, if_neg c]
      by_cases c3 : i + 1 = a + 1
      · rw [if_pos c3]
        obtain rfl : i = a := by omega
        refine ⟨fun k hk => ?_, fun k hk => ?_⟩
        · refine (if_neg (by omega)).trans ((if_pos (by omega)).trans ?_)
          rw [show 0 + (32 * i + k - 32 * i) = k by omega]; exact e0 k hk
        · refine (if_pos (by omega)).trans ?_
          rw [show 0 + (6 * i + k - 6 * i) = k by omega]; exact e1 k hk
      · rw [if_neg c3]
        have hq := hg.2 i (by omega)
        refine ⟨fun k hk => ?_, fun k hk => ?_⟩
        · exact (if_neg (by omega)).trans ((if_neg (by omega)).trans (hq.1 k hk))
        · exact (if_neg (by omega)).trans (hq.2 k hk)
    · have c2 := c.2
      unfold rq_gM at c2
      exact (if_neg (by omega)).trans (if_neg (by omega))
    · have c2 := c.2
      unfold rq_gM at c2
      exact if_neg (by omega)
def rq_tq (q : Nat) : Nat := if q = 0 then 23 else q - 1
theorem e_takeC (hg : rq_hc I J (a + 1) q f) (ha : a < 24) (hq : q < 24) (hn : (f a).1 0 ≤ 6) : ∃ I1 J1, sx_E sc (d + 1) cd_X0_takeBack 0 [some (.inr (.inr (0, 0))), some (.inr (.inr (5, 0))), none] [] I J (some (.inl 1), I1, J1) ∧ rq_hc I1 J1 a (rq_tq q) f ∧ rq_C I1 J1 0 (f a).1 (f a).2 ∧ rq_sm rq_oC I J I1 J1 := by
  have h1 := hg.1
  have h2 := hg.2.1
  have hr : rq_at q (a + 1) a = rq_tq q + 4 := by unfold rq_at rq_tq; split <;> omega
  have hC := hg.2.2 a (by omega)
  rw [hr] at hC
  have eb : ∀ z, i_X5_becomes I J 0 (rq_tq q + 4) 0 0 z = I 0 0 z := fun z => rfl
  have n2 : ¬ I 0 0 2 ≤ 0 := by rw [h2]; exact nI_nle (by omega) (by omega)
  have e3 : ∀ v, (sx_uI (i_X5_becomes I J 0 (rq_tq q + 4)) 0 0 1 v) 0 0 2 - 1 = nI a := fun v => by
    rw [show (sx_uI (i_X5_becomes I J 0 (rq_tq q + 4)) 0 0 1 v) 0 0 2 = nI (a + 1) from (eb 2).trans h2, nI_pred]
  have hE := es_X0_takeBack (sc := sc) (d := d) (r1 := 0) (I := I) (J := J)
  have key : v_X0_takeBack I J 0 = 1 ∧ i_X0_takeBack I J 0 = sx_uI (sx_uI (i_X5_becomes I J 0 (rq_tq q + 4)) 0 0 1 (nI (rq_tq q))) 0 0 2 (nI a) ∧ j_X0_takeBack I J 0 = j_X5_becomes I J 0 (rq_tq q + 4) ∧ sx_E sc (d + 1) cd_X0_takeBack 0 [some (.inr (.inr (0, 0))), some (.inr (.inr (5, 0))), none] [] I J (some (.inl (v_X0_takeBack I J 0)), i_X0_takeBack I J 0, j_X0_takeBack I J 0) := by
    by_cases c : q = 0
    · have e1 : I 0 0 1 ≤ 0 := by rw [h1, c]; decide
      have et : rq_tq q = 23 := if_pos c
      rw [et] at e3 hC ⊢
      have e23 : (23 : Int32).toNatClampNeg + 4 = 27 := by decide
      refine ⟨?_, ?_, ?_, hE (fun _ _ _ => by decide) (fun _ _ _ => ?_) (fun c => absurd e1 c) (fun c => absurd e1 c) (fun c => absurd e1 c)⟩
      · rw [v_X0_takeBack, if_pos e1, if_neg n2, if_pos (by decide)]
      · rw [i_X0_takeBack, if_pos e1, if_neg n2, if_pos (by decide), e23, e3]; rfl
      · rw [j_X0_takeBack, if_pos e1, if_neg n2, if_pos (by decide), e23]
      · rw [e23]; exact hC.st
    · have e1 : ¬ I 0 0 1 ≤ 0 := by rw [h1]; exact nI_nle (by omega) (by omega)
      have et : rq_tq q = q - 1 := if_neg c
      have eq : nI q - 1 = nI (q - 1) := pk_sub (b := 1) (by omega)
      have el : nI (q - 1) < (24 : Int32) := nI_lt (b := 24) (by omega) (by omega)
      rw [et] at e3 hC ⊢
      refine ⟨?_, ?_, ?_, hE (fun c => absurd c e1) (fun c => absurd c e1) (fun _ _ _ => by rw [h1, eq]; exact sx_in_nI (by omega) (by omega)) (fun _ _ _ => by omega) (fun _ _ _ => ?_)⟩
      · rw [v_X0_takeBack, if_neg e1, if_neg n2, h1, eq, if_pos el]
      · rw [i_X0_takeBack, if_neg e1, if_neg n2, h1, eq, if_pos el, nI_clamp (by omega), e3]
      · rw [j_X0_takeBack, if_neg e1, if_neg n2, h1, eq, if_pos el, nI_clamp (by omega)]
      · rw [h1, eq, nI_clamp (by omega)]; exact hC.st
  obtain ⟨k1, k2, k3, k4⟩ := key
  rw [k1, k2, k3] at k4
  have fr : ∀ {r s L}, rq_C (i_X5_becomes I J 0 (rq_tq q + 4)) (j_X5_becomes I J 0 (rq_tq q + 4)) r s L → rq_C (sx_uI (sx_uI (i_X5_becomes I J 0 (rq_tq q + 4)) 0 0 1 (nI (rq_tq q))) 0 0 2 (nI a)) (j_X5_becomes I J 0 (rq_tq q + 4)) r s L := fun hc => hc.fr (fun x k cx => by
    have : x ≠ 0 := by unfold rq_cs at cx; omega
    exact (if_neg (fun w => this w.1)).trans (if_neg (fun w => this w.1))) (fun _ _ _ => rfl)
  refine ⟨_, _, k4, ⟨rfl, rfl, fun i hi => fr ?_⟩, fr (c_becomes hC hn), ⟨fun x y z c => ?_, fun x y z c => ?_⟩⟩
  · have e : rq_at (rq_tq q) a i = rq_at q (a + 1) i := by unfold rq_at rq_tq; split <;> omega
    have e2 := rq_at_b (rq_tq q) a i
    have hc := hg.2.2 i (by omega)
    rw [← e] at hc
    exact hc.fr (fun x k cx => if_neg (fun w => by omega)) (fun x k cx => if_neg (fun w => by omega))
  · have c2 := c.2
    unfold rq_oC rq_nC rq_gC rq_cs at c2
    exact (if_neg (by omega)).trans ((if_neg (by omega)).trans (if_neg (by omega)))
  · have c2 := c.2
    unfold rq_oC rq_nC rq_gC rq_cs at c2
    exact if_neg (by omega)
theorem e_takeC0 (hg : rq_hc I J 0 q f) (hq : q < 24) : sx_E sc (d + 1) cd_X0_takeBack 0 [some (.inr (.inr (0, 0))), some (.inr (.inr (5, 0))), none] [] I J (some (.inl 0), I, J) := by
  have n2 : I 0 0 2 ≤ 0 := by rw [hg.2.1]; decide
  have hE := es_X0_takeBack (sc := sc) (d := d) (r1 := 0) (I := I) (J := J) (fun _ c => absurd n2 c) (fun _ c => absurd n2 c) (fun _ c => absurd n2 c) (fun _ c => absurd n2 c) (fun _ c => absurd n2 c)
  rw [v_X0_takeBack, i_X0_takeBack, j_X0_takeBack, if_pos n2, if_pos n2, if_pos n2, if_pos n2, if_pos n2, if_pos n2, ite_self, ite_self, ite_self] at hE
  exact hE
theorem rq_Rel.act (h : rq_Rel I J) (e : rq_sm rq_oo I J I2 J2) (hN : rq_now I2 J2) (hG : rq_ring I2 J2) : rq_Rel I2 J2 := by
  refine h.but e (Or.inl fun a b k => ?_) (Or.inl fun a b k => ?_) (Or.inl fun a b k => ?_) (Or.inl fun a b k => ?_) (Or.inr hN) (Or.inl fun a b k => ?_) (Or.inr hG)
  · unfold rq_cR rq_oo rq_oC rq_oM rq_nC rq_nM rq_gC rq_gM rq_cs; omega
  · unfold rq_cT rq_oo rq_oC rq_oM rq_nC rq_nM rq_gC rq_gM rq_cs; omega
  · unfold rq_cA rq_oo rq_oC rq_oM rq_nC rq_nM rq_gC rq_gM rq_cs; omega
  · unfold rq_cF rq_oo rq_oC rq_oM rq_nC rq_nM rq_gC rq_gM rq_cs; omega
  · unfold rq_cI rq_oo rq_oC rq_oM rq_nC rq_nM rq_gC rq_gM rq_cs; omega
end RQG
